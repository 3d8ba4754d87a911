/-! THE CLASS'S OWN WORDS -/
abbrev alarmC (u : Nat → Nat → Int32) (b : Nat) : Prop := ¬ (u (b + 100) 4 = nI 3 ∨ u (b + 100) 4 = nI 2) ∧ ¬ u (b + 100) 3 < u 0 10
abbrev onC (u : Nat → Nat → Int32) (sn : Int32) (b : Nat) : Prop := u (b + 100) 4 = nI 1 ∧ u (b + 100) 5 = sn
abbrev othC (u : Nat → Nat → Int32) (w : Nat → Nat → Int64) (sn : Int32) (mk b : Nat) : Prop := onC u sn b ∧ mainL (w (b + 200)) 3 ≠ mk
abbrev closeC (u : Nat → Nat → Int32) (a b : Nat) : Prop := hiN a b = loN a b ∨ ¬ u (hiN a b + 300) 0 < nI (hiN a b - loN a b)
abbrev nearC (u : Nat → Nat → Int32) (st b : Nat) : Prop := u (b + 100) 4 = nI 1 ∧ closeC u (u (b + 100) 5).toNatClampNeg st
theorem anyB_up {p : Nat → Bool} {i n : Nat} (hi : i < n) (h : p i = true) : anyB p n = true := by
  induction n with
  | zero => omega
  | succ n ih =>
    unfold anyB
    by_cases e : i = n
    · subst e
      rw [h, Bool.or_true]
    · rw [ih (by omega), Bool.true_or]
theorem i_max {a b : Nat} (ha : a < 2 ^ 31) (hb : b < 2 ^ 31) : (if nI a < nI b then nI b else nI a) = nI (hiN a b) := by
  by_cases h : a < b
  · rw [if_pos ((nI_ltI ha hb).mpr h), hiN, if_pos h]
  · rw [if_neg (fun q => h ((nI_ltI ha hb).mp q)), hiN, if_neg h]
theorem i_min {a b : Nat} (ha : a < 2 ^ 31) (hb : b < 2 ^ 31) : (if nI b < nI a then nI b else nI a) = nI (loN a b) := by
  by_cases h : a < b
  · rw [if_neg (fun q => absurd ((nI_ltI hb ha).mp q) (by omega)), loN, if_pos h]
  · by_cases h2 : b < a
    · rw [if_pos ((nI_ltI hb ha).mpr h2), loN, if_neg h]
    · obtain rfl : a = b := by omega
      rw [loN, if_neg h, ite_self]
theorem hi_lt {a b n : Nat} (ha : a < n) (hb : b < n) : hiN a b < n := by
  unfold hiN
  split <;> omega
theorem lo_le (a b : Nat) : loN a b ≤ hiN a b := by
  unfold hiN loN
  split <;> omega
theorem sumL_n {P : Nat → Prop} [DecidablePred P] {g : Nat → Int64} {i : Nat} {s : Int64} (hs : s = sumL (fun f => if P f then g f else 0) i) (h : ¬ P i) : s = sumL (fun f => if P f then g f else 0) (i + 1) := by
  have e := sumL_f hs h
  rw [Int64.add_zero] at e
  exact e
set_option maxHeartbeats 4000000 in
set_option maxRecDepth 100000 in
theorem p_findBale_i (l : Launch) (G : va_G) (cy : Nat → ClassId) (B : Nat) (ad : Nat → Nat) (cn : Nat → Nat) (u : Nat → Nat → Int32) (w : Nat → Nat → Int64) (x : Nat → Nat → UInt64) (r : Nat → Nat → Option Nat) (hI : CI ad cn r) (j : Nat) (hj : j < cn 6) : Ct l G cy B yX3_findBale cX3_findBale 2 (some (.object "BalePress$Bale")) ({ frames := 0, cells := 0, slots := 0, locals := 0 } : Room) ad (CF cy ad cn u w x r) [.ref (ad 0), .int (nI j)] (fun v ad' f' => v = some (.ref (ad (j + 100))) ∧ ad = ad' ∧ CF cy ad cn u w x r = f') := by
  refine ct_of (by decide +kernel) (Nat.le_of_ble_eq_true rfl) ?_
  intro p e s m args below meth c X hnm
  have hI0 := hI
  obtain ⟨⟨hc3, hc4, hc6, hc9, hc12, hc14⟩, ⟨h30, h31, h32⟩, hr6, hr12, hr14⟩ := hI0
  refine z_lv (lv' := [(0, .ref (ad 0)), (1, .int (nI j))]) [0, 1] rfl ?_
  refine z_iload_n X 1 dX3_findBale_0 rfl rfl ?_
  refine z_if_ltN X (tgt := 21) (by omega) dX3_findBale_1 (by decide) ?_
  refine z_iload_n X 1 dX3_findBale_4 rfl rfl ?_
  refine z_aload_n X 0 dX3_findBale_5 rfl rfl ?_
  refine z_get X (v := .int (nI (cn 6))) 0 6 wa_X3 rfl rfl (CF_at (k := 0) rfl rfl rfl rfl rfl) (by decide) q_91 rfl rfl dX3_findBale_6 ?_
  refine z_icmp_geN X (tgt := 21) (by omega) (by omega) dX3_findBale_9 (by decide) (fun c9 => by exfalso; omega) (fun c9 => ?_)
  refine z_aload_n X 0 dX3_findBale_12 rfl rfl ?_
  refine z_get X (v := .ref (ad 6)) 0 5 wa_X3 rfl rfl (CF_at (k := 0) rfl rfl rfl rfl rfl) (by decide) q_90 rfl rfl dX3_findBale_13 ?_
  refine z_iload_n X 1 dX3_findBale_16 rfl rfl ?_
  refine z_aaldN X (n := 12) (g := r 6) 6 4 rfl (CF_at (k := 6) rfl rfl rfl rfl rfl) rfl (by omega) (by decide) dX3_findBale_17 ?_
  refine z_top (v' := .ref (ad (j + 100))) (by rw [hr6 j hj]; rfl) ?_
  refine z_goto X (tgt := 22) dX3_findBale_18 (by decide) ?_
  refine z_aret X (Nat.le_of_ble_eq_true rfl) (Nat.le_of_ble_eq_true rfl) ?_ dX3_findBale_22
  exact ⟨rfl, rfl, rfl⟩
set_option maxHeartbeats 4000000 in
set_option maxRecDepth 100000 in
theorem p_findBale_o (l : Launch) (G : va_G) (cy : Nat → ClassId) (B : Nat) (ad : Nat → Nat) (cn : Nat → Nat) (u : Nat → Nat → Int32) (w : Nat → Nat → Int64) (x : Nat → Nat → UInt64) (r : Nat → Nat → Option Nat) (hI : CI ad cn r) (b : Int32) (hb : ¬ (¬ b < 0 ∧ ¬ nI (cn 6) ≤ b)) : Ct l G cy B yX3_findBale cX3_findBale 2 (some (.object "BalePress$Bale")) ({ frames := 0, cells := 0, slots := 0, locals := 0 } : Room) ad (CF cy ad cn u w x r) [.ref (ad 0), .int b] (fun v ad' f' => v = some .null ∧ ad = ad' ∧ CF cy ad cn u w x r = f') := by
  refine ct_of (by decide +kernel) (Nat.le_of_ble_eq_true rfl) ?_
  intro p e s m args below meth c X hnm
  have hI0 := hI
  obtain ⟨⟨hc3, hc4, hc6, hc9, hc12, hc14⟩, ⟨h30, h31, h32⟩, hr6, hr12, hr14⟩ := hI0
  refine z_lv (lv' := [(0, .ref (ad 0)), (1, .int b)]) [0, 1] rfl ?_
  refine z_iload_n X 1 dX3_findBale_0 rfl rfl ?_
  refine z_if_lt X (tgt := 21) dX3_findBale_1 (by decide) (fun c1 => ?_) (fun c1 => ?_)
  · refine z_null X dX3_findBale_21 ?_
    refine z_aretN X (Nat.le_of_ble_eq_true rfl) (Nat.le_of_ble_eq_true rfl) ?_ dX3_findBale_22
    exact ⟨rfl, rfl, rfl⟩
  · refine z_iload_n X 1 dX3_findBale_4 rfl rfl ?_
    refine z_aload_n X 0 dX3_findBale_5 rfl rfl ?_
    refine z_get X (v := .int (nI (cn 6))) 0 6 wa_X3 rfl rfl (CF_at (k := 0) rfl rfl rfl rfl rfl) (by decide) q_91 rfl rfl dX3_findBale_6 ?_
    refine z_icmp_ge X (tgt := 21) dX3_findBale_9 (by decide) (fun c9 => ?_) (fun c9 => by exfalso; exact hb ⟨c1, c9⟩)
    refine z_null X dX3_findBale_21 ?_
    refine z_aretN X (Nat.le_of_ble_eq_true rfl) (Nat.le_of_ble_eq_true rfl) ?_ dX3_findBale_22
    exact ⟨rfl, rfl, rfl⟩
set_option maxHeartbeats 4000000 in
set_option maxRecDepth 100000 in
theorem p_findStack_i (l : Launch) (G : va_G) (cy : Nat → ClassId) (B : Nat) (ad : Nat → Nat) (cn : Nat → Nat) (u : Nat → Nat → Int32) (w : Nat → Nat → Int64) (x : Nat → Nat → UInt64) (r : Nat → Nat → Option Nat) (hI : CI ad cn r) (j : Nat) (hj : j < cn 12) : Ct l G cy B yX3_findStack cX3_findStack 2 (some (.object "BalePress$Stack")) ({ frames := 0, cells := 0, slots := 0, locals := 0 } : Room) ad (CF cy ad cn u w x r) [.ref (ad 0), .int (nI j)] (fun v ad' f' => v = some (.ref (ad (j + 300))) ∧ ad = ad' ∧ CF cy ad cn u w x r = f') := by
  refine ct_of (by decide +kernel) (Nat.le_of_ble_eq_true rfl) ?_
  intro p e s m args below meth c X hnm
  have hI0 := hI
  obtain ⟨⟨hc3, hc4, hc6, hc9, hc12, hc14⟩, ⟨h30, h31, h32⟩, hr6, hr12, hr14⟩ := hI0
  refine z_lv (lv' := [(0, .ref (ad 0)), (1, .int (nI j))]) [0, 1] rfl ?_
  refine z_iload_n X 1 dX3_findStack_0 rfl rfl ?_
  refine z_if_ltN X (tgt := 21) (by omega) dX3_findStack_1 (by decide) ?_
  refine z_iload_n X 1 dX3_findStack_4 rfl rfl ?_
  refine z_aload_n X 0 dX3_findStack_5 rfl rfl ?_
  refine z_get X (v := .int (nI (cn 12))) 0 12 wa_X3 rfl rfl (CF_at (k := 0) rfl rfl rfl rfl rfl) (by decide) q_97 rfl rfl dX3_findStack_6 ?_
  refine z_icmp_geN X (tgt := 21) (by omega) (by omega) dX3_findStack_9 (by decide) (fun c9 => by exfalso; omega) (fun c9 => ?_)
  refine z_aload_n X 0 dX3_findStack_12 rfl rfl ?_
  refine z_get X (v := .ref (ad 12)) 0 11 wa_X3 rfl rfl (CF_at (k := 0) rfl rfl rfl rfl rfl) (by decide) q_96 rfl rfl dX3_findStack_13 ?_
  refine z_iload_n X 1 dX3_findStack_16 rfl rfl ?_
  refine z_aaldN X (n := 4) (g := r 12) 12 6 rfl (CF_at (k := 12) rfl rfl rfl rfl rfl) rfl (by omega) (by decide) dX3_findStack_17 ?_
  refine z_top (v' := .ref (ad (j + 300))) (by rw [hr12 j hj]; rfl) ?_
  refine z_goto X (tgt := 22) dX3_findStack_18 (by decide) ?_
  refine z_aret X (Nat.le_of_ble_eq_true rfl) (Nat.le_of_ble_eq_true rfl) ?_ dX3_findStack_22
  exact ⟨rfl, rfl, rfl⟩
set_option maxHeartbeats 4000000 in
set_option maxRecDepth 100000 in
theorem p_findStack_o (l : Launch) (G : va_G) (cy : Nat → ClassId) (B : Nat) (ad : Nat → Nat) (cn : Nat → Nat) (u : Nat → Nat → Int32) (w : Nat → Nat → Int64) (x : Nat → Nat → UInt64) (r : Nat → Nat → Option Nat) (hI : CI ad cn r) (b : Int32) (hb : ¬ (¬ b < 0 ∧ ¬ nI (cn 12) ≤ b)) : Ct l G cy B yX3_findStack cX3_findStack 2 (some (.object "BalePress$Stack")) ({ frames := 0, cells := 0, slots := 0, locals := 0 } : Room) ad (CF cy ad cn u w x r) [.ref (ad 0), .int b] (fun v ad' f' => v = some .null ∧ ad = ad' ∧ CF cy ad cn u w x r = f') := by
  refine ct_of (by decide +kernel) (Nat.le_of_ble_eq_true rfl) ?_
  intro p e s m args below meth c X hnm
  have hI0 := hI
  obtain ⟨⟨hc3, hc4, hc6, hc9, hc12, hc14⟩, ⟨h30, h31, h32⟩, hr6, hr12, hr14⟩ := hI0
  refine z_lv (lv' := [(0, .ref (ad 0)), (1, .int b)]) [0, 1] rfl ?_
  refine z_iload_n X 1 dX3_findStack_0 rfl rfl ?_
  refine z_if_lt X (tgt := 21) dX3_findStack_1 (by decide) (fun c1 => ?_) (fun c1 => ?_)
  · refine z_null X dX3_findStack_21 ?_
    refine z_aretN X (Nat.le_of_ble_eq_true rfl) (Nat.le_of_ble_eq_true rfl) ?_ dX3_findStack_22
    exact ⟨rfl, rfl, rfl⟩
  · refine z_iload_n X 1 dX3_findStack_4 rfl rfl ?_
    refine z_aload_n X 0 dX3_findStack_5 rfl rfl ?_
    refine z_get X (v := .int (nI (cn 12))) 0 12 wa_X3 rfl rfl (CF_at (k := 0) rfl rfl rfl rfl rfl) (by decide) q_97 rfl rfl dX3_findStack_6 ?_
    refine z_icmp_ge X (tgt := 21) dX3_findStack_9 (by decide) (fun c9 => ?_) (fun c9 => by exfalso; exact hb ⟨c1, c9⟩)
    refine z_null X dX3_findStack_21 ?_
    refine z_aretN X (Nat.le_of_ble_eq_true rfl) (Nat.le_of_ble_eq_true rfl) ?_ dX3_findStack_22
    exact ⟨rfl, rfl, rfl⟩
set_option maxHeartbeats 4000000 in
set_option maxRecDepth 100000 in
theorem p_findLorry_i (l : Launch) (G : va_G) (cy : Nat → ClassId) (B : Nat) (ad : Nat → Nat) (cn : Nat → Nat) (u : Nat → Nat → Int32) (w : Nat → Nat → Int64) (x : Nat → Nat → UInt64) (r : Nat → Nat → Option Nat) (hI : CI ad cn r) (j : Nat) (hj : j < cn 14) : Ct l G cy B yX3_findLorry cX3_findLorry 2 (some (.object "BalePress$Lorry")) ({ frames := 0, cells := 0, slots := 0, locals := 0 } : Room) ad (CF cy ad cn u w x r) [.ref (ad 0), .int (nI j)] (fun v ad' f' => v = some (.ref (ad (j + 400))) ∧ ad = ad' ∧ CF cy ad cn u w x r = f') := by
  refine ct_of (by decide +kernel) (Nat.le_of_ble_eq_true rfl) ?_
  intro p e s m args below meth c X hnm
  have hI0 := hI
  obtain ⟨⟨hc3, hc4, hc6, hc9, hc12, hc14⟩, ⟨h30, h31, h32⟩, hr6, hr12, hr14⟩ := hI0
  refine z_lv (lv' := [(0, .ref (ad 0)), (1, .int (nI j))]) [0, 1] rfl ?_
  refine z_iload_n X 1 dX3_findLorry_0 rfl rfl ?_
  refine z_if_ltN X (tgt := 21) (by omega) dX3_findLorry_1 (by decide) ?_
  refine z_iload_n X 1 dX3_findLorry_4 rfl rfl ?_
  refine z_aload_n X 0 dX3_findLorry_5 rfl rfl ?_
  refine z_get X (v := .int (nI (cn 14))) 0 14 wa_X3 rfl rfl (CF_at (k := 0) rfl rfl rfl rfl rfl) (by decide) q_99 rfl rfl dX3_findLorry_6 ?_
  refine z_icmp_geN X (tgt := 21) (by omega) (by omega) dX3_findLorry_9 (by decide) (fun c9 => by exfalso; omega) (fun c9 => ?_)
  refine z_aload_n X 0 dX3_findLorry_12 rfl rfl ?_
  refine z_get X (v := .ref (ad 14)) 0 13 wa_X3 rfl rfl (CF_at (k := 0) rfl rfl rfl rfl rfl) (by decide) q_98 rfl rfl dX3_findLorry_13 ?_
  refine z_iload_n X 1 dX3_findLorry_16 rfl rfl ?_
  refine z_aaldN X (n := 3) (g := r 14) 14 5 rfl (CF_at (k := 14) rfl rfl rfl rfl rfl) rfl (by omega) (by decide) dX3_findLorry_17 ?_
  refine z_top (v' := .ref (ad (j + 400))) (by rw [hr14 j hj]; rfl) ?_
  refine z_goto X (tgt := 22) dX3_findLorry_18 (by decide) ?_
  refine z_aret X (Nat.le_of_ble_eq_true rfl) (Nat.le_of_ble_eq_true rfl) ?_ dX3_findLorry_22
  exact ⟨rfl, rfl, rfl⟩
set_option maxHeartbeats 4000000 in
set_option maxRecDepth 100000 in
theorem p_findLorry_o (l : Launch) (G : va_G) (cy : Nat → ClassId) (B : Nat) (ad : Nat → Nat) (cn : Nat → Nat) (u : Nat → Nat → Int32) (w : Nat → Nat → Int64) (x : Nat → Nat → UInt64) (r : Nat → Nat → Option Nat) (hI : CI ad cn r) (b : Int32) (hb : ¬ (¬ b < 0 ∧ ¬ nI (cn 14) ≤ b)) : Ct l G cy B yX3_findLorry cX3_findLorry 2 (some (.object "BalePress$Lorry")) ({ frames := 0, cells := 0, slots := 0, locals := 0 } : Room) ad (CF cy ad cn u w x r) [.ref (ad 0), .int b] (fun v ad' f' => v = some .null ∧ ad = ad' ∧ CF cy ad cn u w x r = f') := by
  refine ct_of (by decide +kernel) (Nat.le_of_ble_eq_true rfl) ?_
  intro p e s m args below meth c X hnm
  have hI0 := hI
  obtain ⟨⟨hc3, hc4, hc6, hc9, hc12, hc14⟩, ⟨h30, h31, h32⟩, hr6, hr12, hr14⟩ := hI0
  refine z_lv (lv' := [(0, .ref (ad 0)), (1, .int b)]) [0, 1] rfl ?_
  refine z_iload_n X 1 dX3_findLorry_0 rfl rfl ?_
  refine z_if_lt X (tgt := 21) dX3_findLorry_1 (by decide) (fun c1 => ?_) (fun c1 => ?_)
  · refine z_null X dX3_findLorry_21 ?_
    refine z_aretN X (Nat.le_of_ble_eq_true rfl) (Nat.le_of_ble_eq_true rfl) ?_ dX3_findLorry_22
    exact ⟨rfl, rfl, rfl⟩
  · refine z_iload_n X 1 dX3_findLorry_4 rfl rfl ?_
    refine z_aload_n X 0 dX3_findLorry_5 rfl rfl ?_
    refine z_get X (v := .int (nI (cn 14))) 0 14 wa_X3 rfl rfl (CF_at (k := 0) rfl rfl rfl rfl rfl) (by decide) q_99 rfl rfl dX3_findLorry_6 ?_
    refine z_icmp_ge X (tgt := 21) dX3_findLorry_9 (by decide) (fun c9 => ?_) (fun c9 => by exfalso; exact hb ⟨c1, c9⟩)
    refine z_null X dX3_findLorry_21 ?_
    refine z_aretN X (Nat.le_of_ble_eq_true rfl) (Nat.le_of_ble_eq_true rfl) ?_ dX3_findLorry_22
    exact ⟨rfl, rfl, rfl⟩
set_option maxHeartbeats 4000000 in
set_option maxRecDepth 100000 in
theorem p_gainAt (l : Launch) (G : va_G) (cy : Nat → ClassId) (B : Nat) (ad : Nat → Nat) (cn : Nat → Nat) (u : Nat → Nat → Int32) (w : Nat → Nat → Int64) (x : Nat → Nat → UInt64) (r : Nat → Nat → Option Nat) (hI : CI ad cn r) (t : UInt64) : Ct l G cy B yX3_gainAt cX3_gainAt 6 (some .double) ({ frames := 0, cells := 0, slots := 0, locals := 0 } : Room) ad (CF cy ad cn u w x r) [.ref (ad 0), .double t] (fun v ad' f' => v = some (.double (gainL (x 8) (x 9) t (cn 9))) ∧ ad = ad' ∧ CF cy ad cn u w x r = f') := by
  refine ct_of (by decide +kernel) (Nat.le_of_ble_eq_true rfl) ?_
  intro p e s m args below meth c X hnm
  have hI0 := hI
  obtain ⟨⟨hc3, hc4, hc6, hc9, hc12, hc14⟩, ⟨h30, h31, h32⟩, hr6, hr12, hr14⟩ := hI0
  refine z_lv (lv' := [(0, .ref (ad 0)), (1, .double t)]) [0, 1] rfl ?_
  refine z_dconst0 X dX3_gainAt_0 ?_
  refine z_dstore_n X (lv' := [(3, .double 0), (0, .ref (ad 0)), (1, .double t)]) dX3_gainAt_1 rfl (by decide) rfl ?_
  refine z_iconst X (v := nI 0) dX3_gainAt_2 (by decide) ?_
  refine z_istore X (lv' := [(5, .int (nI 0)), (3, .double 0), (0, .ref (ad 0)), (1, .double t)]) dX3_gainAt_3 (by decide) rfl ?_
  refine z_lv (lv' := [(0, .ref (ad 0)), (1, .double t), (3, .double 0), (5, .int (nI 0))]) [2, 3, 1, 0] rfl ?_
  have lp5 : ∀ (fu5 : Nat) (i : Nat) (gv : UInt64), (i ≤ cn 9) → (gv = gainL (x 8) (x 9) t i) → cn 9 + 1 ≤ i + fu5 → Z G B 6 ad (CF cy ad cn u w x r) p l e ({ frames := 0, cells := 0, slots := 0, locals := 0 } : Room) s m args below meth c (zEnd G B ad (CF cy ad cn u w x r) below args s ({ frames := 0, cells := 0, slots := 0, locals := 0 } : Room) (fun v ad' f' => v = some (.double (gainL (x 8) (x 9) t (cn 9))) ∧ ad = ad' ∧ CF cy ad cn u w x r = f')) ad (CF cy ad cn u w x r) 0 0 5 [(0, .ref (ad 0)), (1, .double t), (3, .double gv), (5, .int (nI i))] [] := by
    intro fu5
    induction fu5 with
    | zero => intro i gv hi hg hm5; exact absurd hm5 (by omega)
    | succ fu5 ih5 =>
      intro i gv hi hg hm5
      refine z_iload X 3 dX3_gainAt_5 rfl ?_
      refine z_aload_n X 0 dX3_gainAt_7 rfl rfl ?_
      refine z_get X (v := .int (nI (cn 9))) 0 9 wa_X3 rfl rfl (CF_at (k := 0) rfl rfl rfl rfl rfl) (by decide) q_94 rfl rfl dX3_gainAt_8 ?_
      refine z_icmp_geN X (tgt := 40) (by omega) (by omega) dX3_gainAt_11 (by decide) (fun c11 => ?_) (fun c11 => ?_)
      · have e9 : i = cn 9 := by omega
        rw [e9] at hg
        refine z_dload_n X 2 dX3_gainAt_40 rfl rfl ?_
        refine z_dret X (Nat.le_of_ble_eq_true rfl) (Nat.le_of_ble_eq_true rfl) ?_ dX3_gainAt_41
        exact ⟨by rw [hg], rfl, rfl⟩
      · refine z_aload_n X 0 dX3_gainAt_14 rfl rfl ?_
        refine z_get X (v := .ref (ad 8)) 0 7 wa_X3 rfl rfl (CF_at (k := 0) rfl rfl rfl rfl rfl) (by decide) q_92 rfl rfl dX3_gainAt_15 ?_
        refine z_iload X 3 dX3_gainAt_18 rfl ?_
        refine z_daldN X (n := 6) (g := x 8) 8 rfl (CF_at (k := 8) rfl rfl rfl rfl rfl) (by omega) (by decide) dX3_gainAt_20 ?_
        refine z_dload_n X 1 dX3_gainAt_21 rfl rfl ?_
        refine z_dcmp_gt X (tgt := 34) dX3_gainAt_22 dX3_gainAt_23 (by decide) (fun c22 => ?_) (fun c22 => ?_)
        · refine z_iincN X 3 (k := 1) (lv' := [(5, .int (nI (i + 1))), (0, .ref (ad 0)), (1, .double t), (3, .double gv)]) dX3_gainAt_34 rfl (by decide) (by decide) rfl ?_
          refine z_goto X (tgt := 5) dX3_gainAt_37 (by decide) ?_
          refine z_lv (lv' := [(0, .ref (ad 0)), (1, .double t), (3, .double gv), (5, .int (nI (i + 1)))]) [1, 2, 3, 0] rfl ?_
          exact ih5 (i + 1) gv (by omega) (by rw [hg]; exact (if_neg (by rw [c22]; exact Bool.false_ne_true)).symm) (by omega)
        · refine z_aload_n X 0 dX3_gainAt_26 rfl rfl ?_
          refine z_get X (v := .ref (ad 9)) 0 8 wa_X3 rfl rfl (CF_at (k := 0) rfl rfl rfl rfl rfl) (by decide) q_93 rfl rfl dX3_gainAt_27 ?_
          refine z_iload X 3 dX3_gainAt_30 rfl ?_
          refine z_daldN X (n := 6) (g := x 9) 9 rfl (CF_at (k := 9) rfl rfl rfl rfl rfl) (by omega) (by decide) dX3_gainAt_32 ?_
          refine z_dstore_n X (lv' := [(3, .double ((x 9) i)), (0, .ref (ad 0)), (1, .double t), (5, .int (nI i))]) dX3_gainAt_33 rfl (by decide) rfl ?_
          refine z_iincN X 3 (k := 1) (lv' := [(5, .int (nI (i + 1))), (3, .double ((x 9) i)), (0, .ref (ad 0)), (1, .double t)]) dX3_gainAt_34 rfl (by decide) (by decide) rfl ?_
          refine z_goto X (tgt := 5) dX3_gainAt_37 (by decide) ?_
          refine z_lv (lv' := [(0, .ref (ad 0)), (1, .double t), (3, .double ((x 9) i)), (5, .int (nI (i + 1)))]) [2, 3, 1, 0] rfl ?_
          exact ih5 (i + 1) ((x 9) i) (by omega) (by exact (if_pos c22).symm) (by omega)
  exact lp5 (cn 9 + 1) 0 0 (by omega) (by rfl) (by omega)
set_option maxHeartbeats 4000000 in
set_option maxRecDepth 100000 in
theorem p_isAlarming (l : Launch) (G : va_G) (cy : Nat → ClassId) (B : Nat) (ad : Nat → Nat) (cn : Nat → Nat) (u : Nat → Nat → Int32) (w : Nat → Nat → Int64) (x : Nat → Nat → UInt64) (r : Nat → Nat → Option Nat) (hI : CI ad cn r) (i : Nat) (hi : i < cn 6) : Ct l G cy B yX3_isAlarming cX3_isAlarming 3 (some .boolean) ({ frames := 1, cells := 0, slots := 0, locals := 21 } : Room) ad (CF cy ad cn u w x r) [.ref (ad 0), .int (nI i)] (fun v ad' f' => v = some (.int (nI (if alarmC u i then 1 else 0))) ∧ ad = ad' ∧ CF cy ad cn u w x r = f') := by
  refine ct_of (by decide +kernel) (Nat.le_of_ble_eq_true rfl) ?_
  intro p e s m args below meth c X hnm
  have hI0 := hI
  obtain ⟨⟨hc3, hc4, hc6, hc9, hc12, hc14⟩, ⟨h30, h31, h32⟩, hr6, hr12, hr14⟩ := hI0
  refine z_lv (lv' := [(0, .ref (ad 0)), (1, .int (nI i))]) [0, 1] rfl ?_
  refine z_aload_n X 0 dX3_isAlarming_0 rfl rfl ?_
  refine z_iload_n X 1 dX3_isAlarming_1 rfl rfl ?_
  refine z_callV X (n := 1) (As := [.int (nI i)]) (rest := []) 0 rfl (CF_at (k := 0) rfl rfl rfl rfl rfl) rfl (p_findBale_i l G cy B ad cn u w x r hI i (by omega)) q_194 q_195 q_2 q_24 q_196 (by decide +kernel) ⟨Nat.le_of_ble_eq_true rfl, Nat.le_of_ble_eq_true rfl⟩ rfl rfl (Nat.le_of_ble_eq_true rfl) dX3_isAlarming_2 ⟨Nat.le_of_ble_eq_true rfl, Nat.le_of_ble_eq_true rfl⟩ (fun v ad' f' hp had => ?_)
  obtain ⟨rfl, rfl, rfl⟩ := hp
  refine z_st (st' := [.ref (ad (i + 100))]) rfl ?_
  refine z_astore_n X (lv' := [(2, .ref (ad (i + 100))), (0, .ref (ad 0)), (1, .int (nI i))]) dX3_isAlarming_5 rfl (by decide) rfl ?_
  refine z_aload_n X 0 dX3_isAlarming_6 rfl rfl ?_
  refine z_ifnull X dX3_isAlarming_7 ?_
  refine z_aload_n X 0 dX3_isAlarming_10 rfl rfl ?_
  refine z_callV X (n := 0) (As := []) (rest := []) (i + 100) rfl (CF_at (k := i + 100) rfl rfl rfl rfl (cAt_b (i := i) (by omega) (by omega))) rfl (b_isGoneOrSold l G cy B ad (CF cy ad cn u w x r) (i + 100) (i + 200) (x (i + 100) 1) (u (i + 100) 2) (u (i + 100) 3) (u (i + 100) 4) (u (i + 100) 5) (u (i + 100) 6) (r (i + 100) 7) (r (i + 100) 8) (w (i + 200)) (CF_at (k := i + 100) rfl rfl rfl rfl (cAt_b (i := i) (by omega) (by omega))) (CF_at (k := i + 200) rfl rfl rfl rfl (cAt_g (i := i) (by omega) (by omega)))) q_238 q_239 q_240 q_30 q_241 (by decide +kernel) ⟨Nat.le_of_ble_eq_true rfl, Nat.le_of_ble_eq_true rfl⟩ rfl rfl (Nat.le_of_ble_eq_true rfl) dX3_isAlarming_11 ⟨Nat.le_of_ble_eq_true rfl, Nat.le_of_ble_eq_true rfl⟩ (fun v ad' f' hp had => ?_)
  obtain ⟨rfl, rfl, rfl⟩ := hp
  refine z_st (st' := [.int (nI (if u (i + 100) 4 = nI 3 ∨ u (i + 100) 4 = nI 2 then 1 else 0))]) rfl ?_
  refine z_if_neB X (tgt := 32) dX3_isAlarming_14 (by decide) (fun c14 => ?_) (fun c14 => ?_)
  · refine z_iconst X (v := nI 0) dX3_isAlarming_32 (by decide) ?_
    refine z_zret rfl X (Nat.le_of_ble_eq_true rfl) (Nat.le_of_ble_eq_true rfl) ?_ dX3_isAlarming_33
    exact ⟨by rw [if_neg (fun h => h.1 c14)], rfl, rfl⟩
  · refine z_aload_n X 0 dX3_isAlarming_17 rfl rfl ?_
    refine z_getN X (v := .int (u (i + 100) 3)) (i + 100) 3 wa_X0 rfl rfl (CF_at (k := i + 100) rfl rfl rfl rfl (cAt_b (i := i) (by omega) (by omega))) (by decide) (List.mem_of_getElem? (i := 1) rfl) rfl rfl dX3_isAlarming_18 ?_
    refine z_aload_n X 1 dX3_isAlarming_21 rfl rfl ?_
    refine z_get X (v := .int (u 0 10)) 0 10 wa_X3 rfl rfl (CF_at (k := 0) rfl rfl rfl rfl rfl) (by decide) q_95 rfl rfl dX3_isAlarming_22 ?_
    refine z_icmp_lt X (tgt := 32) dX3_isAlarming_25 (by decide) (fun c25 => ?_) (fun c25 => ?_)
    · refine z_iconst X (v := nI 0) dX3_isAlarming_32 (by decide) ?_
      refine z_zret rfl X (Nat.le_of_ble_eq_true rfl) (Nat.le_of_ble_eq_true rfl) ?_ dX3_isAlarming_33
      exact ⟨by rw [if_neg (fun h => h.2 c25)], rfl, rfl⟩
    · refine z_iconst X (v := nI 1) dX3_isAlarming_28 (by decide) ?_
      refine z_goto X (tgt := 33) dX3_isAlarming_29 (by decide) ?_
      refine z_zret rfl X (Nat.le_of_ble_eq_true rfl) (Nat.le_of_ble_eq_true rfl) ?_ dX3_isAlarming_33
      exact ⟨by rw [if_pos ⟨c14, c25⟩], rfl, rfl⟩
set_option maxHeartbeats 4000000 in
set_option maxRecDepth 100000 in
theorem p_balesOn (l : Launch) (G : va_G) (cy : Nat → ClassId) (B : Nat) (ad : Nat → Nat) (cn : Nat → Nat) (u : Nat → Nat → Int32) (w : Nat → Nat → Int64) (x : Nat → Nat → UInt64) (r : Nat → Nat → Option Nat) (hI : CI ad cn r) (sn : Int32) : Ct l G cy B yX3_balesOn cX3_balesOn 5 (some .int) ({ frames := 1, cells := 0, slots := 0, locals := 21 } : Room) ad (CF cy ad cn u w x r) [.ref (ad 0), .int sn] (fun v ad' f' => v = some (.int (nI (cntN (fun b => decide (onC u sn b)) (cn 6)))) ∧ ad = ad' ∧ CF cy ad cn u w x r = f') := by
  refine ct_of (by decide +kernel) (Nat.le_of_ble_eq_true rfl) ?_
  intro p e s m args below meth c X hnm
  have hI0 := hI
  obtain ⟨⟨hc3, hc4, hc6, hc9, hc12, hc14⟩, ⟨h30, h31, h32⟩, hr6, hr12, hr14⟩ := hI0
  refine z_lv (lv' := [(0, .ref (ad 0)), (1, .int sn)]) [0, 1] rfl ?_
  refine z_iconst X (v := nI 0) dX3_balesOn_0 (by decide) ?_
  refine z_istore_n X (lv' := [(2, .int (nI 0)), (0, .ref (ad 0)), (1, .int sn)]) dX3_balesOn_1 rfl (by decide) rfl ?_
  refine z_iconst X (v := nI 0) dX3_balesOn_2 (by decide) ?_
  refine z_istore_n X (lv' := [(3, .int (nI 0)), (2, .int (nI 0)), (0, .ref (ad 0)), (1, .int sn)]) dX3_balesOn_3 rfl (by decide) rfl ?_
  refine z_lv (lv' := [(0, .ref (ad 0)), (1, .int sn), (2, .int (nI 0)), (3, .int (nI 0))]) [2, 3, 1, 0] rfl ?_
  have lp4 : ∀ (fu4 : Nat) (i sv : Nat), (i ≤ cn 6) → (sv = cntN (fun b => decide (onC u sn b)) i) → cn 6 + 1 ≤ i + fu4 → Z G B 5 ad (CF cy ad cn u w x r) p l e ({ frames := 1, cells := 0, slots := 0, locals := 21 } : Room) s m args below meth c (zEnd G B ad (CF cy ad cn u w x r) below args s ({ frames := 1, cells := 0, slots := 0, locals := 21 } : Room) (fun v ad' f' => v = some (.int (nI (cntN (fun b => decide (onC u sn b)) (cn 6)))) ∧ ad = ad' ∧ CF cy ad cn u w x r = f')) ad (CF cy ad cn u w x r) 0 0 4 [(0, .ref (ad 0)), (1, .int sn), (2, .int (nI sv)), (3, .int (nI i))] [] := by
    intro fu4
    induction fu4 with
    | zero => intro i sv hi hs hm4; exact absurd hm4 (by omega)
    | succ fu4 ih4 =>
      intro i sv hi hs hm4
      refine z_iload_n X 3 dX3_balesOn_4 rfl rfl ?_
      refine z_aload_n X 0 dX3_balesOn_5 rfl rfl ?_
      refine z_get X (v := .int (nI (cn 6))) 0 6 wa_X3 rfl rfl (CF_at (k := 0) rfl rfl rfl rfl rfl) (by decide) q_91 rfl rfl dX3_balesOn_6 ?_
      refine z_icmp_geN X (tgt := 42) (by omega) (by omega) dX3_balesOn_9 (by decide) (fun c9 => ?_) (fun c9 => ?_)
      · have e9 : i = cn 6 := by omega
        rw [e9] at hs
        refine z_iload_n X 2 dX3_balesOn_42 rfl rfl ?_
        refine z_iret X (Nat.le_of_ble_eq_true rfl) (Nat.le_of_ble_eq_true rfl) ?_ dX3_balesOn_43
        exact ⟨by rw [hs], rfl, rfl⟩
      · refine z_aload_n X 0 dX3_balesOn_12 rfl rfl ?_
        refine z_iload_n X 3 dX3_balesOn_13 rfl rfl ?_
        refine z_callV X (n := 1) (As := [.int (nI i)]) (rest := []) 0 rfl (CF_at (k := 0) rfl rfl rfl rfl rfl) rfl (p_findBale_i l G cy B ad cn u w x r hI i (by omega)) q_194 q_195 q_2 q_24 q_196 (by decide +kernel) ⟨Nat.le_of_ble_eq_true rfl, Nat.le_of_ble_eq_true rfl⟩ rfl rfl (Nat.le_of_ble_eq_true rfl) dX3_balesOn_14 ⟨Nat.le_of_ble_eq_true rfl, Nat.le_of_ble_eq_true rfl⟩ (fun v ad' f' hp had => ?_)
        obtain ⟨rfl, rfl, rfl⟩ := hp
        refine z_st (st' := [.ref (ad (i + 100))]) rfl ?_
        refine z_astore X (lv' := [(4, .ref (ad (i + 100))), (0, .ref (ad 0)), (1, .int sn), (2, .int (nI sv)), (3, .int (nI i))]) dX3_balesOn_17 (by decide) rfl ?_
        refine z_aload X 0 dX3_balesOn_19 rfl ?_
        refine z_ifnull X dX3_balesOn_21 ?_
        refine z_aload X 0 dX3_balesOn_24 rfl ?_
        refine z_iload_n X 2 dX3_balesOn_26 rfl rfl ?_
        refine z_callV X (n := 1) (As := [.int sn]) (rest := []) (i + 100) rfl (CF_at (k := i + 100) rfl rfl rfl rfl (cAt_b (i := i) (by omega) (by omega))) rfl (b_standsOn l G cy B ad (CF cy ad cn u w x r) (i + 100) (i + 200) (x (i + 100) 1) (u (i + 100) 2) (u (i + 100) 3) (u (i + 100) 4) (u (i + 100) 5) (u (i + 100) 6) (r (i + 100) 7) (r (i + 100) 8) (w (i + 200)) (CF_at (k := i + 100) rfl rfl rfl rfl (cAt_b (i := i) (by omega) (by omega))) (CF_at (k := i + 200) rfl rfl rfl rfl (cAt_g (i := i) (by omega) (by omega))) sn) q_300 q_301 q_302 q_30 q_303 (by decide +kernel) ⟨Nat.le_of_ble_eq_true rfl, Nat.le_of_ble_eq_true rfl⟩ rfl rfl (Nat.le_of_ble_eq_true rfl) dX3_balesOn_27 ⟨Nat.le_of_ble_eq_true rfl, Nat.le_of_ble_eq_true rfl⟩ (fun v ad' f' hp had => ?_)
        obtain ⟨rfl, rfl, rfl⟩ := hp
        refine z_st (st' := [.int (nI (if u (i + 100) 4 = nI 1 ∧ u (i + 100) 5 = sn then 1 else 0))]) rfl ?_
        refine z_if_eqB X (tgt := 36) dX3_balesOn_30 (by decide) (fun c30 => ?_) (fun c30 => ?_)
        · refine z_iincN X 4 (k := 1) (lv' := [(3, .int (nI (i + 1))), (4, .ref (ad (i + 100))), (0, .ref (ad 0)), (1, .int sn), (2, .int (nI sv))]) dX3_balesOn_36 rfl (by decide) (by decide) rfl ?_
          refine z_goto X (tgt := 4) dX3_balesOn_39 (by decide) ?_
          refine z_lv (lv' := [(0, .ref (ad 0)), (1, .int sn), (2, .int (nI sv)), (3, .int (nI (i + 1)))]) [2, 3, 4, 0] rfl ?_
          exact ih4 (i + 1) sv (by omega) (by rw [hs]; exact (Nat.add_zero _).symm.trans (congrArg (fun z => cntN (fun b => decide (onC u sn b)) i + z) (if_neg (fun h => c30 (of_decide_eq_true h))).symm)) (by omega)
        · refine z_iincN X 3 (k := 1) (lv' := [(2, .int (nI (sv + 1))), (4, .ref (ad (i + 100))), (0, .ref (ad 0)), (1, .int sn), (3, .int (nI i))]) dX3_balesOn_33 rfl (by decide) (by decide) rfl ?_
          refine z_iincN X 4 (k := 1) (lv' := [(3, .int (nI (i + 1))), (2, .int (nI (sv + 1))), (4, .ref (ad (i + 100))), (0, .ref (ad 0)), (1, .int sn)]) dX3_balesOn_36 rfl (by decide) (by decide) rfl ?_
          refine z_goto X (tgt := 4) dX3_balesOn_39 (by decide) ?_
          refine z_lv (lv' := [(0, .ref (ad 0)), (1, .int sn), (2, .int (nI (sv + 1))), (3, .int (nI (i + 1)))]) [3, 4, 1, 0] rfl ?_
          exact ih4 (i + 1) (sv + 1) (by omega) (by rw [hs]; exact congrArg (fun z => cntN (fun b => decide (onC u sn b)) i + z) (if_pos (decide_eq_true (c30 : onC u sn i))).symm) (by omega)
  exact lp4 (cn 6 + 1) 0 0 (by omega) (by rfl) (by omega)
set_option maxHeartbeats 4000000 in
set_option maxRecDepth 100000 in
theorem p_bearsOther (l : Launch) (G : va_G) (cy : Nat → ClassId) (B : Nat) (ad : Nat → Nat) (cn : Nat → Nat) (u : Nat → Nat → Int32) (w : Nat → Nat → Int64) (x : Nat → Nat → UInt64) (r : Nat → Nat → Option Nat) (hI : CI ad cn r) (sn : Int32) (mk : Nat) (hmk : mk ≤ 3) : Ct l G cy B yX3_bearsOtherMainKind cX3_bearsOtherMainKind 5 (some .boolean) ({ frames := 1, cells := 0, slots := 0, locals := 22 } : Room) ad (CF cy ad cn u w x r) [.ref (ad 0), .int sn, .int (nI mk)] (fun v ad' f' => v = some (.int (nI (if anyB (fun b => decide (othC u w sn mk b)) (cn 6) = true then 1 else 0))) ∧ ad = ad' ∧ CF cy ad cn u w x r = f') := by
  refine ct_of (by decide +kernel) (Nat.le_of_ble_eq_true rfl) ?_
  intro p e s m args below meth c X hnm
  have hI0 := hI
  obtain ⟨⟨hc3, hc4, hc6, hc9, hc12, hc14⟩, ⟨h30, h31, h32⟩, hr6, hr12, hr14⟩ := hI0
  refine z_lv (lv' := [(0, .ref (ad 0)), (1, .int sn), (2, .int (nI mk))]) [0, 1, 2] rfl ?_
  refine z_iconst X (v := nI 0) dX3_bearsOtherMainKind_0 (by decide) ?_
  refine z_istore_n X (lv' := [(3, .int (nI 0)), (0, .ref (ad 0)), (1, .int sn), (2, .int (nI mk))]) dX3_bearsOtherMainKind_1 rfl (by decide) rfl ?_
  refine z_lv (lv' := [(0, .ref (ad 0)), (1, .int sn), (2, .int (nI mk)), (3, .int (nI 0))]) [1, 2, 3, 0] rfl ?_
  have lp2 : ∀ (fu2 : Nat) (i : Nat), (i ≤ cn 6) → (anyB (fun b => decide (othC u w sn mk b)) i = false) → cn 6 + 1 ≤ i + fu2 → Z G B 5 ad (CF cy ad cn u w x r) p l e ({ frames := 1, cells := 0, slots := 0, locals := 22 } : Room) s m args below meth c (zEnd G B ad (CF cy ad cn u w x r) below args s ({ frames := 1, cells := 0, slots := 0, locals := 22 } : Room) (fun v ad' f' => v = some (.int (nI (if anyB (fun b => decide (othC u w sn mk b)) (cn 6) = true then 1 else 0))) ∧ ad = ad' ∧ CF cy ad cn u w x r = f')) ad (CF cy ad cn u w x r) 0 0 2 [(0, .ref (ad 0)), (1, .int sn), (2, .int (nI mk)), (3, .int (nI i))] [] := by
    intro fu2
    induction fu2 with
    | zero => intro i hi hs hm2; exact absurd hm2 (by omega)
    | succ fu2 ih2 =>
      intro i hi hs hm2
      refine z_iload_n X 3 dX3_bearsOtherMainKind_2 rfl rfl ?_
      refine z_aload_n X 0 dX3_bearsOtherMainKind_3 rfl rfl ?_
      refine z_get X (v := .int (nI (cn 6))) 0 6 wa_X3 rfl rfl (CF_at (k := 0) rfl rfl rfl rfl rfl) (by decide) q_91 rfl rfl dX3_bearsOtherMainKind_4 ?_
      refine z_icmp_geN X (tgt := 48) (by omega) (by omega) dX3_bearsOtherMainKind_7 (by decide) (fun c7 => ?_) (fun c7 => ?_)
      · have e9 : i = cn 6 := by omega
        rw [e9] at hs
        refine z_iconst X (v := nI 0) dX3_bearsOtherMainKind_48 (by decide) ?_
        refine z_zret rfl X (Nat.le_of_ble_eq_true rfl) (Nat.le_of_ble_eq_true rfl) ?_ dX3_bearsOtherMainKind_49
        exact ⟨by rw [if_neg (by rw [hs]; exact Bool.false_ne_true)], rfl, rfl⟩
      · refine z_aload_n X 0 dX3_bearsOtherMainKind_10 rfl rfl ?_
        refine z_iload_n X 3 dX3_bearsOtherMainKind_11 rfl rfl ?_
        refine z_callV X (n := 1) (As := [.int (nI i)]) (rest := []) 0 rfl (CF_at (k := 0) rfl rfl rfl rfl rfl) rfl (p_findBale_i l G cy B ad cn u w x r hI i (by omega)) q_194 q_195 q_2 q_24 q_196 (by decide +kernel) ⟨Nat.le_of_ble_eq_true rfl, Nat.le_of_ble_eq_true rfl⟩ rfl rfl (Nat.le_of_ble_eq_true rfl) dX3_bearsOtherMainKind_12 ⟨Nat.le_of_ble_eq_true rfl, Nat.le_of_ble_eq_true rfl⟩ (fun v ad' f' hp had => ?_)
        obtain ⟨rfl, rfl, rfl⟩ := hp
        refine z_st (st' := [.ref (ad (i + 100))]) rfl ?_
        refine z_astore X (lv' := [(4, .ref (ad (i + 100))), (0, .ref (ad 0)), (1, .int sn), (2, .int (nI mk)), (3, .int (nI i))]) dX3_bearsOtherMainKind_15 (by decide) rfl ?_
        refine z_aload X 0 dX3_bearsOtherMainKind_17 rfl ?_
        refine z_ifnull X dX3_bearsOtherMainKind_19 ?_
        refine z_aload X 0 dX3_bearsOtherMainKind_22 rfl ?_
        refine z_iload_n X 2 dX3_bearsOtherMainKind_24 rfl rfl ?_
        refine z_callV X (n := 1) (As := [.int sn]) (rest := []) (i + 100) rfl (CF_at (k := i + 100) rfl rfl rfl rfl (cAt_b (i := i) (by omega) (by omega))) rfl (b_standsOn l G cy B ad (CF cy ad cn u w x r) (i + 100) (i + 200) (x (i + 100) 1) (u (i + 100) 2) (u (i + 100) 3) (u (i + 100) 4) (u (i + 100) 5) (u (i + 100) 6) (r (i + 100) 7) (r (i + 100) 8) (w (i + 200)) (CF_at (k := i + 100) rfl rfl rfl rfl (cAt_b (i := i) (by omega) (by omega))) (CF_at (k := i + 200) rfl rfl rfl rfl (cAt_g (i := i) (by omega) (by omega))) sn) q_300 q_301 q_302 q_30 q_303 (by decide +kernel) ⟨Nat.le_of_ble_eq_true rfl, Nat.le_of_ble_eq_true rfl⟩ rfl rfl (Nat.le_of_ble_eq_true rfl) dX3_bearsOtherMainKind_25 ⟨Nat.le_of_ble_eq_true rfl, Nat.le_of_ble_eq_true rfl⟩ (fun v ad' f' hp had => ?_)
        obtain ⟨rfl, rfl, rfl⟩ := hp
        refine z_st (st' := [.int (nI (if u (i + 100) 4 = nI 1 ∧ u (i + 100) 5 = sn then 1 else 0))]) rfl ?_
        refine z_if_eqB X (tgt := 42) dX3_bearsOtherMainKind_28 (by decide) (fun c28 => ?_) (fun c28 => ?_)
        · refine z_iincN X 4 (k := 1) (lv' := [(3, .int (nI (i + 1))), (4, .ref (ad (i + 100))), (0, .ref (ad 0)), (1, .int sn), (2, .int (nI mk))]) dX3_bearsOtherMainKind_42 rfl (by decide) (by decide) rfl ?_
          refine z_goto X (tgt := 2) dX3_bearsOtherMainKind_45 (by decide) ?_
          refine z_lv (lv' := [(0, .ref (ad 0)), (1, .int sn), (2, .int (nI mk)), (3, .int (nI (i + 1)))]) [2, 3, 4, 0] rfl ?_
          exact ih2 (i + 1) (by omega) (by rw [anyB_s (fun h => c28 h.1)]; exact hs) (by omega)
        · refine z_aload X 0 dX3_bearsOtherMainKind_31 rfl ?_
          refine z_callV X (n := 0) (As := []) (rest := []) (i + 100) rfl (CF_at (k := i + 100) rfl rfl rfl rfl (cAt_b (i := i) (by omega) (by omega))) rfl (b_mainKind l G cy B ad (CF cy ad cn u w x r) (i + 100) (i + 200) (x (i + 100) 1) (u (i + 100) 2) (u (i + 100) 3) (u (i + 100) 4) (u (i + 100) 5) (u (i + 100) 6) (r (i + 100) 7) (r (i + 100) 8) (w (i + 200)) (CF_at (k := i + 100) rfl rfl rfl rfl (cAt_b (i := i) (by omega) (by omega))) (CF_at (k := i + 200) rfl rfl rfl rfl (cAt_g (i := i) (by omega) (by omega)))) q_305 q_306 q_307 q_30 q_308 (by decide +kernel) ⟨Nat.le_of_ble_eq_true rfl, Nat.le_of_ble_eq_true rfl⟩ rfl rfl (Nat.le_of_ble_eq_true rfl) dX3_bearsOtherMainKind_33 ⟨Nat.le_of_ble_eq_true rfl, Nat.le_of_ble_eq_true rfl⟩ (fun v ad' f' hp had => ?_)
          obtain ⟨rfl, rfl, rfl⟩ := hp
          refine z_st (st' := [.int (nI (mainL (w (i + 200)) 3))]) rfl ?_
          refine z_iload_n X 3 dX3_bearsOtherMainKind_36 rfl rfl ?_
          refine z_icmp_eqN X (tgt := 42) (by first | exact Nat.lt_of_le_of_lt (mainL_le _ 3) (by decide) | omega) (by first | exact Nat.lt_of_le_of_lt (mainL_le _ 3) (by decide) | omega) dX3_bearsOtherMainKind_37 (by decide) (fun c37 => ?_) (fun c37 => ?_)
          · refine z_iincN X 4 (k := 1) (lv' := [(3, .int (nI (i + 1))), (4, .ref (ad (i + 100))), (0, .ref (ad 0)), (1, .int sn), (2, .int (nI mk))]) dX3_bearsOtherMainKind_42 rfl (by decide) (by decide) rfl ?_
            refine z_goto X (tgt := 2) dX3_bearsOtherMainKind_45 (by decide) ?_
            refine z_lv (lv' := [(0, .ref (ad 0)), (1, .int sn), (2, .int (nI mk)), (3, .int (nI (i + 1)))]) [2, 3, 4, 0] rfl ?_
            exact ih2 (i + 1) (by omega) (by rw [anyB_s (fun h => h.2 c37)]; exact hs) (by omega)
          · refine z_iconst X (v := nI 1) dX3_bearsOtherMainKind_40 (by decide) ?_
            refine z_zret rfl X (Nat.le_of_ble_eq_true rfl) (Nat.le_of_ble_eq_true rfl) ?_ dX3_bearsOtherMainKind_41
            exact ⟨by rw [if_pos (anyB_up (i := i) (by omega) (decide_eq_true ⟨c28, c37⟩))], rfl, rfl⟩
  exact lp2 (cn 6 + 1) 0 (by omega) (by rfl) (by omega)
set_option maxHeartbeats 4000000 in
set_option maxRecDepth 100000 in
theorem p_areClose (l : Launch) (G : va_G) (cy : Nat → ClassId) (B : Nat) (ad : Nat → Nat) (cn : Nat → Nat) (u : Nat → Nat → Int32) (w : Nat → Nat → Int64) (x : Nat → Nat → UInt64) (r : Nat → Nat → Option Nat) (hI : CI ad cn r) (a b : Nat) (ha : a < cn 12) (hb : b < cn 12) : Ct l G cy B yX3_areClose cX3_areClose 6 (some .boolean) ({ frames := 1, cells := 0, slots := 0, locals := 21 } : Room) ad (CF cy ad cn u w x r) [.ref (ad 0), .int (nI a), .int (nI b)] (fun v ad' f' => v = some (.int (nI (if closeC u a b then 1 else 0))) ∧ ad = ad' ∧ CF cy ad cn u w x r = f') := by
  refine ct_of (by decide +kernel) (Nat.le_of_ble_eq_true rfl) ?_
  intro p e s m args below meth c X hnm
  have hI0 := hI
  obtain ⟨⟨hc3, hc4, hc6, hc9, hc12, hc14⟩, ⟨h30, h31, h32⟩, hr6, hr12, hr14⟩ := hI0
  have hh := hi_lt ha hb
  have hl := lo_le a b
  refine z_lv (lv' := [(0, .ref (ad 0)), (1, .int (nI a)), (2, .int (nI b))]) [0, 1, 2] rfl ?_
  refine z_iload_n X 1 dX3_areClose_0 rfl rfl ?_
  refine z_iload_n X 2 dX3_areClose_1 rfl rfl ?_
  refine z_mmin X q_318 q_319 q_31 q_320 (Nat.le_of_ble_eq_true rfl) (Nat.le_of_ble_eq_true rfl) (Nat.le_of_ble_eq_true rfl) (Nat.le_of_ble_eq_true rfl) dX3_areClose_2 ?_
  refine z_top (v' := .int (nI (loN a b))) (by rw [i_min (by omega) (by omega)]) ?_
  refine z_istore_n X (lv' := [(3, .int (nI (loN a b))), (0, .ref (ad 0)), (1, .int (nI a)), (2, .int (nI b))]) dX3_areClose_5 rfl (by decide) rfl ?_
  refine z_iload_n X 2 dX3_areClose_6 rfl rfl ?_
  refine z_iload_n X 3 dX3_areClose_7 rfl rfl ?_
  refine z_mmax X q_321 q_259 q_31 q_260 (Nat.le_of_ble_eq_true rfl) (Nat.le_of_ble_eq_true rfl) (Nat.le_of_ble_eq_true rfl) (Nat.le_of_ble_eq_true rfl) dX3_areClose_8 ?_
  refine z_top (v' := .int (nI (hiN a b))) (by rw [i_max (by omega) (by omega)]) ?_
  refine z_istore X (lv' := [(4, .int (nI (hiN a b))), (3, .int (nI (loN a b))), (0, .ref (ad 0)), (1, .int (nI a)), (2, .int (nI b))]) dX3_areClose_11 (by decide) rfl ?_
  refine z_iload_n X 1 dX3_areClose_13 rfl rfl ?_
  refine z_iload X 0 dX3_areClose_14 rfl ?_
  refine z_icmp_neN X (tgt := 21) (by omega) (by omega) dX3_areClose_16 (by decide) (fun c16 => ?_) (fun c16 => ?_)
  · refine z_aload_n X 2 dX3_areClose_21 rfl rfl ?_
    refine z_iload X 0 dX3_areClose_22 rfl ?_
    refine z_callV X (n := 1) (As := [.int (nI (hiN a b))]) (rest := []) 0 rfl (CF_at (k := 0) rfl rfl rfl rfl rfl) rfl (p_findStack_i l G cy B ad cn u w x r hI (hiN a b) (by omega)) q_294 q_295 q_5 q_24 q_296 (by decide +kernel) ⟨Nat.le_of_ble_eq_true rfl, Nat.le_of_ble_eq_true rfl⟩ rfl rfl (Nat.le_of_ble_eq_true rfl) dX3_areClose_24 ⟨Nat.le_of_ble_eq_true rfl, Nat.le_of_ble_eq_true rfl⟩ (fun v ad' f' hp had => ?_)
    obtain ⟨rfl, rfl, rfl⟩ := hp
    refine z_st (st' := [.ref (ad (hiN a b + 300))]) rfl ?_
    refine z_astore X (lv' := [(5, .ref (ad (hiN a b + 300))), (4, .int (nI (hiN a b))), (3, .int (nI (loN a b))), (0, .ref (ad 0)), (1, .int (nI a)), (2, .int (nI b))]) dX3_areClose_27 (by decide) rfl ?_
    refine z_aload X 0 dX3_areClose_29 rfl ?_
    refine z_ifnull X dX3_areClose_31 ?_
    refine z_iload X 1 dX3_areClose_34 rfl ?_
    refine z_iload_n X 2 dX3_areClose_36 rfl rfl ?_
    refine z_isubN X (by omega) dX3_areClose_37 ?_
    refine z_aload X 0 dX3_areClose_38 rfl ?_
    refine z_getN X (v := .int (u (hiN a b + 300) 0)) (hiN a b + 300) 0 wa_X2 rfl rfl (CF_at (k := hiN a b + 300) rfl rfl rfl rfl (cAt_s (i := hiN a b) (by omega) (by omega))) (by decide) (List.mem_of_getElem? (i := 7) rfl) rfl rfl dX3_areClose_40 ?_
    refine z_icmp_gt X (tgt := 50) dX3_areClose_43 (by decide) (fun c43 => ?_) (fun c43 => ?_)
    · refine z_iconst X (v := nI 0) dX3_areClose_50 (by decide) ?_
      refine z_zret rfl X (Nat.le_of_ble_eq_true rfl) (Nat.le_of_ble_eq_true rfl) ?_ dX3_areClose_51
      exact ⟨by rw [if_neg (fun h => h.elim (fun q => c16 q.symm) (fun q => q c43))], rfl, rfl⟩
    · refine z_iconst X (v := nI 1) dX3_areClose_46 (by decide) ?_
      refine z_goto X (tgt := 51) dX3_areClose_47 (by decide) ?_
      refine z_zret rfl X (Nat.le_of_ble_eq_true rfl) (Nat.le_of_ble_eq_true rfl) ?_ dX3_areClose_51
      exact ⟨by rw [if_pos (Or.inr c43)], rfl, rfl⟩
  · refine z_iconst X (v := nI 1) dX3_areClose_19 (by decide) ?_
    refine z_zret rfl X (Nat.le_of_ble_eq_true rfl) (Nat.le_of_ble_eq_true rfl) ?_ dX3_areClose_20
    exact ⟨by rw [if_pos (Or.inl c16.symm)], rfl, rfl⟩
set_option maxHeartbeats 4000000 in
set_option maxRecDepth 100000 in
theorem p_gramsClose (l : Launch) (G : va_G) (cy : Nat → ClassId) (B : Nat) (ad : Nat → Nat) (cn : Nat → Nat) (u : Nat → Nat → Int32) (w : Nat → Nat → Int64) (x : Nat → Nat → UInt64) (r : Nat → Nat → Option Nat) (hI : CI ad cn r) (st : Nat) (hs0 : st < cn 12) (hst : ∀ b, b < cn 6 → u (b + 100) 4 = nI 1 → ∃ s9, s9 < cn 12 ∧ u (b + 100) 5 = nI s9) : Ct l G cy B yX3_gramsCloseTo cX3_gramsCloseTo 6 (some .long) ({ frames := 2, cells := 0, slots := 0, locals := 46 } : Room) ad (CF cy ad cn u w x r) [.ref (ad 0), .int (nI st)] (fun v ad' f' => v = some (.long (sumL (fun b => if nearC u st b then sumL (w (b + 200)) 4 else 0) (cn 6))) ∧ ad = ad' ∧ CF cy ad cn u w x r = f') := by
  refine ct_of (by decide +kernel) (Nat.le_of_ble_eq_true rfl) ?_
  intro p e s m args below meth c X hnm
  have hI0 := hI
  obtain ⟨⟨hc3, hc4, hc6, hc9, hc12, hc14⟩, ⟨h30, h31, h32⟩, hr6, hr12, hr14⟩ := hI0
  refine z_lv (lv' := [(0, .ref (ad 0)), (1, .int (nI st))]) [0, 1] rfl ?_
  refine z_lconst X (v := 0) dX3_gramsCloseTo_0 rfl ?_
  refine z_lstore_n X (lv' := [(2, .long 0), (0, .ref (ad 0)), (1, .int (nI st))]) dX3_gramsCloseTo_1 rfl (by decide) rfl ?_
  refine z_iconst X (v := nI 0) dX3_gramsCloseTo_2 (by decide) ?_
  refine z_istore X (lv' := [(4, .int (nI 0)), (2, .long 0), (0, .ref (ad 0)), (1, .int (nI st))]) dX3_gramsCloseTo_3 (by decide) rfl ?_
  refine z_lv (lv' := [(0, .ref (ad 0)), (1, .int (nI st)), (2, .long 0), (4, .int (nI 0))]) [2, 3, 1, 0] rfl ?_
  have lp5 : ∀ (fu5 : Nat) (i : Nat) (sv : Int64), (i ≤ cn 6) → (sv = sumL (fun b => if nearC u st b then sumL (w (b + 200)) 4 else 0) i) → cn 6 + 1 ≤ i + fu5 → Z G B 6 ad (CF cy ad cn u w x r) p l e ({ frames := 2, cells := 0, slots := 0, locals := 46 } : Room) s m args below meth c (zEnd G B ad (CF cy ad cn u w x r) below args s ({ frames := 2, cells := 0, slots := 0, locals := 46 } : Room) (fun v ad' f' => v = some (.long (sumL (fun b => if nearC u st b then sumL (w (b + 200)) 4 else 0) (cn 6))) ∧ ad = ad' ∧ CF cy ad cn u w x r = f')) ad (CF cy ad cn u w x r) 0 0 5 [(0, .ref (ad 0)), (1, .int (nI st)), (2, .long sv), (4, .int (nI i))] [] := by
    intro fu5
    induction fu5 with
    | zero => intro i sv hi hs hm5; exact absurd hm5 (by omega)
    | succ fu5 ih5 =>
      intro i sv hi hs hm5
      refine z_iload X 3 dX3_gramsCloseTo_5 rfl ?_
      refine z_aload_n X 0 dX3_gramsCloseTo_7 rfl rfl ?_
      refine z_get X (v := .int (nI (cn 6))) 0 6 wa_X3 rfl rfl (CF_at (k := 0) rfl rfl rfl rfl rfl) (by decide) q_91 rfl rfl dX3_gramsCloseTo_8 ?_
      refine z_icmp_geN X (tgt := 63) (by omega) (by omega) dX3_gramsCloseTo_11 (by decide) (fun c11 => ?_) (fun c11 => ?_)
      · have e9 : i = cn 6 := by omega
        rw [e9] at hs
        refine z_lload_n X 2 dX3_gramsCloseTo_63 rfl rfl ?_
        refine z_lret X (Nat.le_of_ble_eq_true rfl) (Nat.le_of_ble_eq_true rfl) ?_ dX3_gramsCloseTo_64
        exact ⟨by rw [hs], rfl, rfl⟩
      · refine z_aload_n X 0 dX3_gramsCloseTo_14 rfl rfl ?_
        refine z_iload X 3 dX3_gramsCloseTo_15 rfl ?_
        refine z_callV X (n := 1) (As := [.int (nI i)]) (rest := []) 0 rfl (CF_at (k := 0) rfl rfl rfl rfl rfl) rfl (p_findBale_i l G cy B ad cn u w x r hI i (by omega)) q_194 q_195 q_2 q_24 q_196 (by decide +kernel) ⟨Nat.le_of_ble_eq_true rfl, Nat.le_of_ble_eq_true rfl⟩ rfl rfl (Nat.le_of_ble_eq_true rfl) dX3_gramsCloseTo_17 ⟨Nat.le_of_ble_eq_true rfl, Nat.le_of_ble_eq_true rfl⟩ (fun v ad' f' hp had => ?_)
        obtain ⟨rfl, rfl, rfl⟩ := hp
        refine z_st (st' := [.ref (ad (i + 100))]) rfl ?_
        refine z_astore X (lv' := [(5, .ref (ad (i + 100))), (0, .ref (ad 0)), (1, .int (nI st)), (2, .long sv), (4, .int (nI i))]) dX3_gramsCloseTo_20 (by decide) rfl ?_
        refine z_aload X 0 dX3_gramsCloseTo_22 rfl ?_
        refine z_ifnull X dX3_gramsCloseTo_24 ?_
        refine z_aload X 0 dX3_gramsCloseTo_27 rfl ?_
        refine z_getN X (v := .int (u (i + 100) 4)) (i + 100) 4 wa_X0 rfl rfl (CF_at (k := i + 100) rfl rfl rfl rfl (cAt_b (i := i) (by omega) (by omega))) (by decide) (List.mem_of_getElem? (i := 2) rfl) rfl rfl dX3_gramsCloseTo_29 ?_
        refine z_iconst X (v := nI 1) dX3_gramsCloseTo_32 (by decide) ?_
        refine z_icmp_ne X (tgt := 57) dX3_gramsCloseTo_33 (by decide) (fun c33 => ?_) (fun c33 => ?_)
        · refine z_iincN X 4 (k := 1) (lv' := [(4, .int (nI (i + 1))), (5, .ref (ad (i + 100))), (0, .ref (ad 0)), (1, .int (nI st)), (2, .long sv)]) dX3_gramsCloseTo_57 rfl (by decide) (by decide) rfl ?_
          refine z_goto X (tgt := 5) dX3_gramsCloseTo_60 (by decide) ?_
          refine z_lv (lv' := [(0, .ref (ad 0)), (1, .int (nI st)), (2, .long sv), (4, .int (nI (i + 1)))]) [2, 3, 4, 0] rfl ?_
          exact ih5 (i + 1) sv (by omega) (by exact sumL_n hs (fun h => c33 h.1)) (by omega)
        · obtain ⟨s9, hs9, e9⟩ := hst i (by omega) c33
          refine z_aload_n X 1 dX3_gramsCloseTo_36 rfl rfl ?_
          refine z_aload X 0 dX3_gramsCloseTo_37 rfl ?_
          refine z_getN X (v := .int (u (i + 100) 5)) (i + 100) 5 wa_X0 rfl rfl (CF_at (k := i + 100) rfl rfl rfl rfl (cAt_b (i := i) (by omega) (by omega))) (by decide) (List.mem_of_getElem? (i := 3) rfl) rfl rfl dX3_gramsCloseTo_39 ?_
          refine z_top (v' := .int (nI s9)) (by rw [e9]) ?_
          refine z_iload_n X 2 dX3_gramsCloseTo_42 rfl rfl ?_
          refine z_callV X (n := 2) (As := [.int (nI s9), .int (nI st)]) (rest := []) 0 rfl (CF_at (k := 0) rfl rfl rfl rfl rfl) rfl (p_areClose l G cy B ad cn u w x r hI s9 st hs9 hs0) q_315 q_316 q_9 q_24 q_317 (by decide +kernel) ⟨Nat.le_of_ble_eq_true rfl, Nat.le_of_ble_eq_true rfl⟩ rfl rfl (Nat.le_of_ble_eq_true rfl) dX3_gramsCloseTo_43 ⟨Nat.le_of_ble_eq_true rfl, Nat.le_of_ble_eq_true rfl⟩ (fun v ad' f' hp had => ?_)
          obtain ⟨rfl, rfl, rfl⟩ := hp
          refine z_st (st' := [.int (nI (if closeC u s9 st then 1 else 0))]) rfl ?_
          refine z_if_eqB X (tgt := 57) dX3_gramsCloseTo_46 (by decide) (fun c46 => ?_) (fun c46 => ?_)
          · refine z_iincN X 4 (k := 1) (lv' := [(4, .int (nI (i + 1))), (5, .ref (ad (i + 100))), (0, .ref (ad 0)), (1, .int (nI st)), (2, .long sv)]) dX3_gramsCloseTo_57 rfl (by decide) (by decide) rfl ?_
            refine z_goto X (tgt := 5) dX3_gramsCloseTo_60 (by decide) ?_
            refine z_lv (lv' := [(0, .ref (ad 0)), (1, .int (nI st)), (2, .long sv), (4, .int (nI (i + 1)))]) [2, 3, 4, 0] rfl ?_
            exact ih5 (i + 1) sv (by omega) (by exact sumL_n hs (fun h => c46 (by have e8 := h.2; rw [e9, nI_clamp (by omega)] at e8; exact e8))) (by omega)
          · refine z_lload_n X 3 dX3_gramsCloseTo_49 rfl rfl ?_
            refine z_aload X 0 dX3_gramsCloseTo_50 rfl ?_
            refine z_callV X (n := 0) (As := []) (rest := [.long sv]) (i + 100) rfl (CF_at (k := i + 100) rfl rfl rfl rfl (cAt_b (i := i) (by omega) (by omega))) rfl (b_totalGrams l G cy B ad (CF cy ad cn u w x r) (i + 100) (i + 200) (x (i + 100) 1) (u (i + 100) 2) (u (i + 100) 3) (u (i + 100) 4) (u (i + 100) 5) (u (i + 100) 6) (r (i + 100) 7) (r (i + 100) 8) (w (i + 200)) (CF_at (k := i + 100) rfl rfl rfl rfl (cAt_b (i := i) (by omega) (by omega))) (CF_at (k := i + 200) rfl rfl rfl rfl (cAt_g (i := i) (by omega) (by omega)))) q_210 q_211 q_212 q_30 q_213 (by decide +kernel) ⟨Nat.le_of_ble_eq_true rfl, Nat.le_of_ble_eq_true rfl⟩ rfl rfl (Nat.le_of_ble_eq_true rfl) dX3_gramsCloseTo_52 ⟨Nat.le_of_ble_eq_true rfl, Nat.le_of_ble_eq_true rfl⟩ (fun v ad' f' hp had => ?_)
            obtain ⟨rfl, rfl, rfl⟩ := hp
            refine z_st (st' := [.long (sumL (w (i + 200)) 4), .long sv]) rfl ?_
            refine z_ladd X dX3_gramsCloseTo_55 ?_
            refine z_lstore_n X (lv' := [(2, .long (sv + (sumL (w (i + 200)) 4))), (5, .ref (ad (i + 100))), (0, .ref (ad 0)), (1, .int (nI st)), (4, .int (nI i))]) dX3_gramsCloseTo_56 rfl (by decide) rfl ?_
            refine z_iincN X 4 (k := 1) (lv' := [(4, .int (nI (i + 1))), (2, .long (sv + (sumL (w (i + 200)) 4))), (5, .ref (ad (i + 100))), (0, .ref (ad 0)), (1, .int (nI st))]) dX3_gramsCloseTo_57 rfl (by decide) (by decide) rfl ?_
            refine z_goto X (tgt := 5) dX3_gramsCloseTo_60 (by decide) ?_
            refine z_lv (lv' := [(0, .ref (ad 0)), (1, .int (nI st)), (2, .long (sv + (sumL (w (i + 200)) 4))), (4, .int (nI (i + 1)))]) [3, 4, 1, 0] rfl ?_
            exact ih5 (i + 1) (sv + (sumL (w (i + 200)) 4)) (by omega) (by exact sumL_t hs ⟨c33, by rw [e9, nI_clamp (by omega)]; exact c46⟩) (by omega)
  exact lp5 (cn 6 + 1) 0 0 (by omega) (by rfl) (by omega)
