abbrev TFw (cy : Nat → ClassId) (ad cn : Nat → Nat) (u : Nat → Nat → Int32) (w : Nat → Nat → Int64) (x : Nat → Nat → UInt64) (r : Nat → Nat → Option Nat) (n : Nat) (m g : Nat → Int32) : zW := CF cy ad (va_up cn 16 n) (va_up (va_up u 16 m) 17 g) w x r
section TFL
variable {cy : Nat → ClassId} {ad cn : Nat → Nat} {u : Nat → Nat → Int32} {w : Nat → Nat → Int64} {x : Nat → Nat → UInt64} {r : Nat → Nat → Option Nat} {n n' : Nat} {m m' g g' : Nat → Int32}
theorem TF_16 (hm : m 1 = nI 0) : TFw cy ad cn u w x r n m g 16 = some (.inr (0, [.ref (ad 17), .int (nI 0), .int (m 2), .int (nI n)])) :=
  (show TFw cy ad cn u w x r n m g 16 = some (.inr (0, [.ref (ad 17), .int (m 1), .int (m 2), .int (nI n)])) from rfl).trans (by rw [hm])
theorem cAt_16 {uj : Nat → Int32} {wj : Nat → Int64} {xj : Nat → UInt64} {rj : Nat → Option Nat} {j : Nat} (e : j ≠ 16) : cAt cy ad (va_up cn 16 n) uj wj xj rj j = cAt cy ad cn uj wj xj rj j := by
  unfold cAt
  by_cases h : j < 100
  · rw [if_pos h, if_pos h]
    unfold cBase
    split <;> first | rfl | exact absurd rfl e
  · rw [if_neg h, if_neg h]
    rfl
theorem TF_o (hm' : m' 1 = nI 0) : zup (TFw cy ad cn u w x r n m g) 16 (.inr (0, [.ref (ad 17), .int (nI 0), .int (m' 2), .int (nI n')])) = TFw cy ad cn u w x r n' m' g := by
  funext j
  by_cases e : j = 16
  · subst e
    rw [zup_same, TF_16 hm']
  · rw [zup_ne e]
    show cAt _ _ _ _ _ _ _ _ = cAt _ _ _ _ _ _ _ _
    rw [cAt_16 e, cAt_16 e]
    have eu : va_up (va_up u 16 m) 17 g j = va_up (va_up u 16 m') 17 g j := by
      unfold va_up
      by_cases h : j = 17 <;> simp [h, e]
    rw [eu]
theorem TF_b : zup (TFw cy ad cn u w x r n m g) 17 (.inl (cy 3, 16, .inl g')) = TFw cy ad cn u w x r n m g' := by
  rw [TFw, CF_u (k := 17) g' rfl, up_up]
end TFL
theorem LT_c {g : Nat → Int32} {T : Nat → Nat} {n ch : Nat} (h : ∀ i, i < n → g i = sb_b (T i)) (hc : T n = ch) : ∀ i, i < n + 1 → upd g n (sb_b ch) i = sb_b (T i) := by
  intro i hi
  unfold upd
  by_cases e : i = n
  · rw [if_pos e, e, hc]
  · rw [if_neg e]
    exact h i (by omega)
theorem LT_i {g : Nat → Int32} {T : Nat → Nat} {n v : Nat} (h : ∀ i, i < n → g i = sb_b (T i)) (hc : ∀ a, a < sb_dg v → T (n + a) = sb_dec v a) : ∀ i, i < n + sb_dg v → putD g v (n + sb_dg v) (sb_dg v) i = sb_b (T i) := by
  intro i hi
  unfold putD
  by_cases e : i < n
  · rw [if_neg (by omega)]
    exact h i e
  · rw [if_pos (by omega)]
    obtain ⟨a, rfl⟩ : ∃ a, i = n + a := ⟨i - n, by omega⟩
    rw [hc a (by omega)]
    unfold sb_dec
    rw [show n + sb_dg v - 1 - (n + a) = sb_dg v - 1 - a by omega]
theorem dg_j {j : Nat} (h : j < 12) : sb_dg j = if j < 10 then 1 else 2 := by
  unfold sb_dg
  by_cases h1 : j < 10
  · rw [if_pos h1, if_pos h1]
  · rw [if_neg h1, if_neg h1, if_pos (by omega)]
/-! the empty worlds -/
def c0n : Nat → Nat := fun _ => 0
def c0u : Nat → Nat → Int32
  | 0 => fun j => if j = 10 then nI 1 else 0
  | _ => fun _ => 0
def m0u : Nat → Nat → Int32
  | 0 => fun j => if j = 17 then nI 1 else 0
  | _ => fun _ => 0
def c0w : Nat → Nat → Int64 := fun _ _ => 0
def c0x : Nat → Nat → UInt64 := fun _ _ => 0
def c0r : Nat → Nat → Option Nat := fun _ _ => none
theorem CF_0 {cy : Nat → ClassId} {ad : Nat → Nat} {f : zW} (h : ∀ k, k < 18 → CF cy ad c0n c0u c0w c0x c0r k = f k) (hj : ∀ j, 18 ≤ j → f j = none) : CF cy ad c0n c0u c0w c0x c0r = f := by
  funext j'
  by_cases h1 : j' < 18
  · exact h j' h1
  · rw [hj j' (by omega), CF, cAt]
    by_cases h2 : j' < 100
    · rw [if_pos h2]
      unfold cBase
      split <;> first | omega | rfl
    · rw [if_neg h2]
      have z : ∀ k, c0n k = 0 := fun _ => rfl
      simp only [z]
      (repeat' split) <;> first | rfl | omega
theorem MF_0 {cy : Nat → ClassId} {ad : Nat → Nat} {f : zW} (h : ∀ k, k < 28 → MF cy ad c0n m0u c0w c0x k = f k) (hj : ∀ j, 28 ≤ j → f j = none) : MF cy ad c0n m0u c0w c0x = f := by
  funext j'
  by_cases h1 : j' < 28
  · exact h j' h1
  · rw [hj j' (by omega), MF, if_neg (by omega), mArr]
    have z : mSh j' = (0, 0) := by
      unfold mSh
      split <;> first | omega | rfl
    rw [z]
    rfl
theorem tf_set (l : Launch) (G : va_G) (cy : Nat → ClassId) (B : Nat) (ad : Nat → Nat) (cn : Nat → Nat) (u : Nat → Nat → Int32) (w : Nat → Nat → Int64) (x : Nat → Nat → UInt64) (r : Nat → Nat → Option Nat) (n : Nat) (hn : n ≤ 16) (m : Nat → Int32) (hm : m 1 = nI 0) (g : Nat → Int32)  : Ct l G cy B yJ4_setLength_d00df cJ4_setLength_d00df 2 none ({ frames := 2, cells := 0, slots := 0, locals := 43 } : Room) ad (TFw cy ad cn u w x r n m g) [.ref (ad 16), .int (nI 0)] (fun v ad' f' => v = none ∧ ad = ad' ∧ TFw cy ad cn u w x r 0 (upd m 2 (if n = 0 then m 2 else nI 1)) g = f') := by
  have h9 := t_setL l G cy B ad (TFw cy ad cn u w x r n m g) 16 17 (by decide) (m 2) n hn g (TF_16 hm) rfl 
  have e9 := TF_o (cy := cy) (ad := ad) (cn := cn) (u := u) (w := w) (x := x) (r := r) (n := n) (n' := 0) (m := m) (g := g) (m' := upd m 2 (if n = 0 then m 2 else nI 1)) hm
  simp only [show upd m 2 (if n = 0 then m 2 else nI 1) 2 = (if n = 0 then m 2 else nI 1) from pk_us] at e9
  rw [e9] at h9
  exact h9
theorem tf_appC (l : Launch) (G : va_G) (cy : Nat → ClassId) (B : Nat) (ad : Nat → Nat) (cn : Nat → Nat) (u : Nat → Nat → Int32) (w : Nat → Nat → Int64) (x : Nat → Nat → UInt64) (r : Nat → Nat → Option Nat) (n : Nat) (hn : n ≤ 16) (m : Nat → Int32) (hm : m 1 = nI 0) (g : Nat → Int32) (hn9 : n < 16) (ch : Nat) (hc : ch < 128) : Ct l G cy B yJ4_append_cf468 cJ4_append_cf468 2 (some (.object "java/lang/StringBuilder")) ({ frames := 2, cells := 0, slots := 0, locals := 43 } : Room) ad (TFw cy ad cn u w x r n m g) [.ref (ad 16), .int (nI ch)] (fun v ad' f' => v = some (.ref (ad 16)) ∧ ad = ad' ∧ TFw cy ad cn u w x r (n + 1) m (upd g n (sb_b ch)) = f') := by
  have h9 := t_appC l G cy B ad (TFw cy ad cn u w x r n m g) 16 17 (by decide) (m 2) n hn g (TF_16 hm) rfl hn9 ch hc
  rw [TF_o (n' := n + 1) (m' := m) hm, TF_b] at h9
  exact h9
theorem tf_appI (l : Launch) (G : va_G) (cy : Nat → ClassId) (B : Nat) (ad : Nat → Nat) (cn : Nat → Nat) (u : Nat → Nat → Int32) (w : Nat → Nat → Int64) (x : Nat → Nat → UInt64) (r : Nat → Nat → Option Nat) (n : Nat) (hn : n ≤ 16) (m : Nat → Int32) (hm : m 1 = nI 0) (g : Nat → Int32) (vv : Nat) (hv : vv < 10 ^ 9) (hd : n + sb_dg vv ≤ 16) : Ct l G cy B yJ4_append_bf812 cJ4_append_bf812 2 (some (.object "java/lang/StringBuilder")) ({ frames := 2, cells := 0, slots := 0, locals := 49 } : Room) ad (TFw cy ad cn u w x r n m g) [.ref (ad 16), .int (nI vv)] (fun v ad' f' => v = some (.ref (ad 16)) ∧ ad = ad' ∧ TFw cy ad cn u w x r (n + sb_dg vv) m (putD g vv (n + sb_dg vv) (sb_dg vv)) = f') := by
  have h9 := t_appI l G cy B ad (TFw cy ad cn u w x r n m g) 16 17 (by decide) (m 2) n hn g (TF_16 hm) rfl vv hv hd
  rw [TF_b, TF_o (n' := n + sb_dg vv) (m' := m) hm] at h9
  exact h9
theorem tf_len (l : Launch) (G : va_G) (cy : Nat → ClassId) (B : Nat) (ad : Nat → Nat) (cn : Nat → Nat) (u : Nat → Nat → Int32) (w : Nat → Nat → Int64) (x : Nat → Nat → UInt64) (r : Nat → Nat → Option Nat) (n : Nat) (hn : n ≤ 16) (m : Nat → Int32) (hm : m 1 = nI 0) (g : Nat → Int32)  : Ct l G cy B yJ4_length_8abf5 cJ4_length_8abf5 1 (some .int) ({ frames := 1, cells := 0, slots := 0, locals := 20 } : Room) ad (TFw cy ad cn u w x r n m g) [.ref (ad 16)] (fun v ad' f' => v = some (.int (nI n)) ∧ ad = ad' ∧ TFw cy ad cn u w x r n m g = f') := by
  have h9 := t_length l G cy B ad (TFw cy ad cn u w x r n m g) 16 17 (by decide) (m 2) n hn g (TF_16 hm) rfl 
  
  exact h9
theorem tf_at (l : Launch) (G : va_G) (cy : Nat → ClassId) (B : Nat) (ad : Nat → Nat) (cn : Nat → Nat) (u : Nat → Nat → Int32) (w : Nat → Nat → Int64) (x : Nat → Nat → UInt64) (r : Nat → Nat → Option Nat) (n : Nat) (hn : n ≤ 16) (m : Nat → Int32) (hm : m 1 = nI 0) (g : Nat → Int32) (i : Nat) (hi : i < n) (ch : Nat) (hc : ch < 128) (hx : g i = sb_b ch) : Ct l G cy B yJ4_charAt_5068e cJ4_charAt_5068e 2 (some .char) ({ frames := 3, cells := 0, slots := 0, locals := 67 } : Room) ad (TFw cy ad cn u w x r n m g) [.ref (ad 16), .int (nI i)] (fun v ad' f' => v = some (.int (nI ch)) ∧ ad = ad' ∧ TFw cy ad cn u w x r n m g = f') := by
  have h9 := t_at l G cy B ad (TFw cy ad cn u w x r n m g) 16 17 (by decide) (m 2) n hn g (TF_16 hm) rfl i hi ch hc hx
  
  exact h9
set_option maxHeartbeats 4000000 in
set_option maxRecDepth 100000 in
theorem p_writeLabel (l : Launch) (G : va_G) (cy : Nat → ClassId) (B : Nat) (ad : Nat → Nat) (cn : Nat → Nat) (u : Nat → Nat → Int32) (w : Nat → Nat → Int64) (x : Nat → Nat → UInt64) (r : Nat → Nat → Option Nat) (hI : CI ad cn r) (j : Nat) (hj : j < cn 6) (T : Nat → Nat) (W : Nat) (hW : sumL (w (j + 200)) 4 = lN W) (hW9 : W < 10 ^ 9) (hT0 : T 0 = 66) (hT1 : ∀ a, a < sb_dg j → T (1 + a) = sb_dec j a) (hT2 : T (1 + sb_dg j) = 32) (hT3 : ∀ a, a < sb_dg W → T (1 + sb_dg j + 1 + a) = sb_dec W a) (hT4 : T (1 + sb_dg j + 1 + sb_dg W) = 32) (hT5 : ∀ a, a < sb_dg (mainL (w (j + 200)) 3) → T (1 + sb_dg j + 1 + sb_dg W + 1 + a) = sb_dec (mainL (w (j + 200)) 3) a) (hm0 : u 16 1 = nI 0) (hn0 : cn 16 ≤ 16) : Ct l G cy B yX3_writeLabel cX3_writeLabel 3 none ({ frames := 3, cells := 0, slots := 0, locals := 70 } : Room) ad (CF cy ad cn u w x r) [.ref (ad 0), .int (nI j), .ref (ad (j + 100))] (fun v ad' f' => v = none ∧ ad = ad' ∧ ∃ m9 g9, m9 1 = nI 0 ∧ (∀ i, i < 1 + sb_dg j + 1 + sb_dg W + 1 + sb_dg (mainL (w (j + 200)) 3) → g9 i = sb_b (T i)) ∧ TFw cy ad cn u w x r (1 + sb_dg j + 1 + sb_dg W + 1 + sb_dg (mainL (w (j + 200)) 3)) m9 g9 = f') := by
  refine ct_of (by decide +kernel) (Nat.le_of_ble_eq_true rfl) ?_
  intro p e s m args below meth c X hnm
  have hI0 := hI
  obtain ⟨⟨hc3, hc4, hc6, hc9, hc12, hc14⟩, ⟨h30, h31, h32⟩, hr6, hr12, hr14⟩ := hI0
  have d1 : sb_dg j ≤ 2 := by rw [dg_j (by omega)]; split <;> omega
  have d2 := dg_le9 hW9
  have d3 : sb_dg (mainL (w (j + 200)) 3) = 1 := if_pos (Nat.lt_of_le_of_lt (mainL_le _ 3) (by decide))
  have d4 := sb_dg_in j
  have d6 : (mainL (w (j + 200)) 3) ≤ 3 := mainL_le _ 3
  have d5 := sb_dg_in W
  refine z_f (show CF cy ad cn u w x r = CF cy ad (va_up cn 16 (cn 16)) (va_up (va_up u 16 (u 16)) 17 (u 17)) w x r from by rw [up_self, up_self, up_self]) ?_
  refine z_lv (lv' := [(0, .ref (ad 0)), (1, .int (nI j)), (2, .ref (ad (j + 100)))]) [0, 1, 2] rfl ?_
  refine z_aload_n X 0 dX3_writeLabel_0 rfl rfl ?_
  refine z_get X (v := .ref (ad 16)) 0 15 wa_X3 rfl rfl (CF_at (k := 0) rfl rfl rfl rfl rfl) (by decide) q_100 rfl rfl dX3_writeLabel_1 ?_
  refine z_iconst X (v := nI 0) dX3_writeLabel_4 (by decide) ?_
  refine z_callV X (n := 1) (As := [.int (nI 0)]) (rest := []) 16 rfl (CF_at (k := 16) rfl rfl rfl rfl rfl) rfl (tf_set l G cy B ad cn u w x r (cn 16) hn0 (u 16) hm0 (u 17)) q_395 q_396 q_397 q_26 q_398 (by decide +kernel) ⟨Nat.le_of_ble_eq_true rfl, Nat.le_of_ble_eq_true rfl⟩ rfl rfl (Nat.le_of_ble_eq_true rfl) dX3_writeLabel_5 ⟨Nat.le_of_ble_eq_true rfl, Nat.le_of_ble_eq_true rfl⟩ (fun v ad' f' hp had => ?_)
  obtain ⟨rfl, rfl, rfl⟩ := hp
  refine z_st (st' := []) rfl ?_
  generalize hm9 : upd (u 16) 2 (if cn 16 = 0 then u 16 2 else nI 1) = m1
  have hm1 : m1 1 = nI 0 := by rw [← hm9]; exact hm0
  refine z_aload_n X 0 dX3_writeLabel_8 rfl rfl ?_
  refine z_get X (v := .ref (ad 16)) 0 15 wa_X3 rfl rfl (CF_at (k := 0) rfl rfl rfl rfl rfl) (by decide) q_100 rfl rfl dX3_writeLabel_9 ?_
  refine z_bipush X (v := nI 66) dX3_writeLabel_12 (by decide) ?_
  refine z_callV X (n := 1) (As := [.int (nI 66)]) (rest := []) 16 rfl (CF_at (k := 16) rfl rfl rfl rfl rfl) rfl (tf_appC l G cy B ad cn u w x r (0) (by omega) m1 hm1 (u 17) (by omega) 66 (by decide)) q_448 q_449 q_450 q_26 q_451 (by decide +kernel) ⟨Nat.le_of_ble_eq_true rfl, Nat.le_of_ble_eq_true rfl⟩ rfl rfl (Nat.le_of_ble_eq_true rfl) dX3_writeLabel_14 ⟨Nat.le_of_ble_eq_true rfl, Nat.le_of_ble_eq_true rfl⟩ (fun v ad' f' hp had => ?_)
  obtain ⟨rfl, rfl, rfl⟩ := hp
  refine z_st (st' := [.ref (ad 16)]) rfl ?_
  refine z_pop X dX3_writeLabel_17 rfl ?_
  refine z_aload_n X 0 dX3_writeLabel_18 rfl rfl ?_
  refine z_get X (v := .ref (ad 16)) 0 15 wa_X3 rfl rfl (CF_at (k := 0) rfl rfl rfl rfl rfl) (by decide) q_100 rfl rfl dX3_writeLabel_19 ?_
  refine z_iload_n X 1 dX3_writeLabel_22 rfl rfl ?_
  refine z_callV X (n := 1) (As := [.int (nI j)]) (rest := []) 16 rfl (CF_at (k := 16) rfl rfl rfl rfl rfl) rfl (tf_appI l G cy B ad cn u w x r (1) (by omega) m1 hm1 (upd (u 17) 0 (sb_b 66)) j (by omega) (by omega)) q_498 q_499 q_500 q_26 q_501 (by decide +kernel) ⟨Nat.le_of_ble_eq_true rfl, Nat.le_of_ble_eq_true rfl⟩ rfl rfl (Nat.le_of_ble_eq_true rfl) dX3_writeLabel_23 ⟨Nat.le_of_ble_eq_true rfl, Nat.le_of_ble_eq_true rfl⟩ (fun v ad' f' hp had => ?_)
  obtain ⟨rfl, rfl, rfl⟩ := hp
  refine z_st (st' := [.ref (ad 16)]) rfl ?_
  refine z_pop X dX3_writeLabel_26 rfl ?_
  refine z_aload_n X 0 dX3_writeLabel_27 rfl rfl ?_
  refine z_get X (v := .ref (ad 16)) 0 15 wa_X3 rfl rfl (CF_at (k := 0) rfl rfl rfl rfl rfl) (by decide) q_100 rfl rfl dX3_writeLabel_28 ?_
  refine z_bipush X (v := nI 32) dX3_writeLabel_31 (by decide) ?_
  refine z_callV X (n := 1) (As := [.int (nI 32)]) (rest := []) 16 rfl (CF_at (k := 16) rfl rfl rfl rfl rfl) rfl (tf_appC l G cy B ad cn u w x r (1 + sb_dg j) (by omega) m1 hm1 (putD (upd (u 17) 0 (sb_b 66)) j (1 + sb_dg j) (sb_dg j)) (by omega) 32 (by decide)) q_448 q_449 q_450 q_26 q_451 (by decide +kernel) ⟨Nat.le_of_ble_eq_true rfl, Nat.le_of_ble_eq_true rfl⟩ rfl rfl (Nat.le_of_ble_eq_true rfl) dX3_writeLabel_33 ⟨Nat.le_of_ble_eq_true rfl, Nat.le_of_ble_eq_true rfl⟩ (fun v ad' f' hp had => ?_)
  obtain ⟨rfl, rfl, rfl⟩ := hp
  refine z_st (st' := [.ref (ad 16)]) rfl ?_
  refine z_pop X dX3_writeLabel_36 rfl ?_
  refine z_aload_n X 0 dX3_writeLabel_37 rfl rfl ?_
  refine z_get X (v := .ref (ad 16)) 0 15 wa_X3 rfl rfl (CF_at (k := 0) rfl rfl rfl rfl rfl) (by decide) q_100 rfl rfl dX3_writeLabel_38 ?_
  refine z_aload_n X 2 dX3_writeLabel_41 rfl rfl ?_
  refine z_callV X (n := 0) (As := []) (rest := [.ref (ad 16)]) (j + 100) rfl (CF_at (k := j + 100) ((va_ne (by omega)).trans (va_ne (by omega))) rfl rfl rfl (cAt_b (i := j) (show j < cn 30 from by omega) (show cn 30 ≤ 12 from by omega))) rfl (b_totalGrams l G cy B ad (CF cy ad (va_up cn 16 (1 + sb_dg j + 1)) (va_up (va_up u 16 m1) 17 (upd (putD (upd (u 17) 0 (sb_b 66)) j (1 + sb_dg j) (sb_dg j)) (1 + sb_dg j) (sb_b 32))) w x r) (j + 100) (j + 200) (x (j + 100) 1) (u (j + 100) 2) (u (j + 100) 3) (u (j + 100) 4) (u (j + 100) 5) (u (j + 100) 6) (r (j + 100) 7) (r (j + 100) 8) (w (j + 200)) (CF_at (k := j + 100) ((va_ne (by omega)).trans (va_ne (by omega))) rfl rfl rfl (cAt_b (i := j) (show j < cn 30 from by omega) (show cn 30 ≤ 12 from by omega))) (CF_at (k := j + 200) ((va_ne (by omega)).trans (va_ne (by omega))) rfl rfl rfl (cAt_g (i := j) (show j < cn 30 from by omega) (show cn 30 ≤ 12 from by omega)))) q_210 q_211 q_212 q_30 q_213 (by decide +kernel) ⟨Nat.le_of_ble_eq_true rfl, Nat.le_of_ble_eq_true rfl⟩ rfl rfl (Nat.le_of_ble_eq_true rfl) dX3_writeLabel_42 ⟨Nat.le_of_ble_eq_true rfl, Nat.le_of_ble_eq_true rfl⟩ (fun v ad' f' hp had => ?_)
  obtain ⟨rfl, rfl, rfl⟩ := hp
  refine z_st (st' := [.long (sumL (w (j + 200)) 4), .ref (ad 16)]) rfl ?_
  refine z_l2i X dX3_writeLabel_45 ?_
  refine z_top (v' := .int (nI W)) (by rw [hW, lN_i]) ?_
  refine z_callV X (n := 1) (As := [.int (nI W)]) (rest := []) 16 rfl (CF_at (k := 16) rfl rfl rfl rfl rfl) rfl (tf_appI l G cy B ad cn u w x r (1 + sb_dg j + 1) (by omega) m1 hm1 (upd (putD (upd (u 17) 0 (sb_b 66)) j (1 + sb_dg j) (sb_dg j)) (1 + sb_dg j) (sb_b 32)) W hW9 (by omega)) q_498 q_499 q_500 q_26 q_501 (by decide +kernel) ⟨Nat.le_of_ble_eq_true rfl, Nat.le_of_ble_eq_true rfl⟩ rfl rfl (Nat.le_of_ble_eq_true rfl) dX3_writeLabel_46 ⟨Nat.le_of_ble_eq_true rfl, Nat.le_of_ble_eq_true rfl⟩ (fun v ad' f' hp had => ?_)
  obtain ⟨rfl, rfl, rfl⟩ := hp
  refine z_st (st' := [.ref (ad 16)]) rfl ?_
  refine z_pop X dX3_writeLabel_49 rfl ?_
  refine z_aload_n X 0 dX3_writeLabel_50 rfl rfl ?_
  refine z_get X (v := .ref (ad 16)) 0 15 wa_X3 rfl rfl (CF_at (k := 0) rfl rfl rfl rfl rfl) (by decide) q_100 rfl rfl dX3_writeLabel_51 ?_
  refine z_bipush X (v := nI 32) dX3_writeLabel_54 (by decide) ?_
  refine z_callV X (n := 1) (As := [.int (nI 32)]) (rest := []) 16 rfl (CF_at (k := 16) rfl rfl rfl rfl rfl) rfl (tf_appC l G cy B ad cn u w x r (1 + sb_dg j + 1 + sb_dg W) (by omega) m1 hm1 (putD (upd (putD (upd (u 17) 0 (sb_b 66)) j (1 + sb_dg j) (sb_dg j)) (1 + sb_dg j) (sb_b 32)) W (1 + sb_dg j + 1 + sb_dg W) (sb_dg W)) (by omega) 32 (by decide)) q_448 q_449 q_450 q_26 q_451 (by decide +kernel) ⟨Nat.le_of_ble_eq_true rfl, Nat.le_of_ble_eq_true rfl⟩ rfl rfl (Nat.le_of_ble_eq_true rfl) dX3_writeLabel_56 ⟨Nat.le_of_ble_eq_true rfl, Nat.le_of_ble_eq_true rfl⟩ (fun v ad' f' hp had => ?_)
  obtain ⟨rfl, rfl, rfl⟩ := hp
  refine z_st (st' := [.ref (ad 16)]) rfl ?_
  refine z_pop X dX3_writeLabel_59 rfl ?_
  refine z_aload_n X 0 dX3_writeLabel_60 rfl rfl ?_
  refine z_get X (v := .ref (ad 16)) 0 15 wa_X3 rfl rfl (CF_at (k := 0) rfl rfl rfl rfl rfl) (by decide) q_100 rfl rfl dX3_writeLabel_61 ?_
  refine z_aload_n X 2 dX3_writeLabel_64 rfl rfl ?_
  refine z_callV X (n := 0) (As := []) (rest := [.ref (ad 16)]) (j + 100) rfl (CF_at (k := j + 100) ((va_ne (by omega)).trans (va_ne (by omega))) rfl rfl rfl (cAt_b (i := j) (show j < cn 30 from by omega) (show cn 30 ≤ 12 from by omega))) rfl (b_mainKind l G cy B ad (CF cy ad (va_up cn 16 (1 + sb_dg j + 1 + sb_dg W + 1)) (va_up (va_up u 16 m1) 17 (upd (putD (upd (putD (upd (u 17) 0 (sb_b 66)) j (1 + sb_dg j) (sb_dg j)) (1 + sb_dg j) (sb_b 32)) W (1 + sb_dg j + 1 + sb_dg W) (sb_dg W)) (1 + sb_dg j + 1 + sb_dg W) (sb_b 32))) w x r) (j + 100) (j + 200) (x (j + 100) 1) (u (j + 100) 2) (u (j + 100) 3) (u (j + 100) 4) (u (j + 100) 5) (u (j + 100) 6) (r (j + 100) 7) (r (j + 100) 8) (w (j + 200)) (CF_at (k := j + 100) ((va_ne (by omega)).trans (va_ne (by omega))) rfl rfl rfl (cAt_b (i := j) (show j < cn 30 from by omega) (show cn 30 ≤ 12 from by omega))) (CF_at (k := j + 200) ((va_ne (by omega)).trans (va_ne (by omega))) rfl rfl rfl (cAt_g (i := j) (show j < cn 30 from by omega) (show cn 30 ≤ 12 from by omega)))) q_305 q_306 q_307 q_30 q_308 (by decide +kernel) ⟨Nat.le_of_ble_eq_true rfl, Nat.le_of_ble_eq_true rfl⟩ rfl rfl (Nat.le_of_ble_eq_true rfl) dX3_writeLabel_65 ⟨Nat.le_of_ble_eq_true rfl, Nat.le_of_ble_eq_true rfl⟩ (fun v ad' f' hp had => ?_)
  obtain ⟨rfl, rfl, rfl⟩ := hp
  refine z_st (st' := [.int (nI (mainL (w (j + 200)) 3)), .ref (ad 16)]) rfl ?_
  refine z_callV X (n := 1) (As := [.int (nI (mainL (w (j + 200)) 3))]) (rest := []) 16 rfl (CF_at (k := 16) rfl rfl rfl rfl rfl) rfl (tf_appI l G cy B ad cn u w x r (1 + sb_dg j + 1 + sb_dg W + 1) (by omega) m1 hm1 (upd (putD (upd (putD (upd (u 17) 0 (sb_b 66)) j (1 + sb_dg j) (sb_dg j)) (1 + sb_dg j) (sb_b 32)) W (1 + sb_dg j + 1 + sb_dg W) (sb_dg W)) (1 + sb_dg j + 1 + sb_dg W) (sb_b 32)) (mainL (w (j + 200)) 3) (by omega) (by omega)) q_498 q_499 q_500 q_26 q_501 (by decide +kernel) ⟨Nat.le_of_ble_eq_true rfl, Nat.le_of_ble_eq_true rfl⟩ rfl rfl (Nat.le_of_ble_eq_true rfl) dX3_writeLabel_68 ⟨Nat.le_of_ble_eq_true rfl, Nat.le_of_ble_eq_true rfl⟩ (fun v ad' f' hp had => ?_)
  obtain ⟨rfl, rfl, rfl⟩ := hp
  refine z_st (st' := [.ref (ad 16)]) rfl ?_
  refine z_pop X dX3_writeLabel_71 rfl ?_
  refine z_vret X (Nat.le_of_ble_eq_true rfl) (Nat.le_of_ble_eq_true rfl) ?_ dX3_writeLabel_72
  refine ⟨rfl, rfl, m1, _, hm1, ?_, rfl⟩
  exact LT_i (LT_c (LT_i (LT_c (LT_i (LT_c (fun i h => absurd h (Nat.not_lt_zero i)) hT0) hT1) hT2) hT3) hT4) hT5
set_option maxHeartbeats 4000000 in
set_option maxRecDepth 100000 in
theorem p_label_i (l : Launch) (G : va_G) (cy : Nat → ClassId) (B : Nat) (ad : Nat → Nat) (cn : Nat → Nat) (u : Nat → Nat → Int32) (w : Nat → Nat → Int64) (x : Nat → Nat → UInt64) (r : Nat → Nat → Option Nat) (hI : CI ad cn r) (j : Nat) (hj : j < cn 6) (T : Nat → Nat) (W : Nat) (hW : sumL (w (j + 200)) 4 = lN W) (hW9 : W < 10 ^ 9) (hT0 : T 0 = 66) (hT1 : ∀ a, a < sb_dg j → T (1 + a) = sb_dec j a) (hT2 : T (1 + sb_dg j) = 32) (hT3 : ∀ a, a < sb_dg W → T (1 + sb_dg j + 1 + a) = sb_dec W a) (hT4 : T (1 + sb_dg j + 1 + sb_dg W) = 32) (hT5 : ∀ a, a < sb_dg (mainL (w (j + 200)) 3) → T (1 + sb_dg j + 1 + sb_dg W + 1 + a) = sb_dec (mainL (w (j + 200)) 3) a) (hm0 : u 16 1 = nI 0) (hn0 : cn 16 ≤ 16) (hT8 : ∀ a, T a < 128) (i : Nat) (hi : i < 2 ^ 31) : Ct l G cy B yX3_label cX3_label 4 (some .int) ({ frames := 4, cells := 0, slots := 0, locals := 92 } : Room) ad (CF cy ad cn u w x r) [.ref (ad 0), .int (nI j), .int (nI i)] (fun v ad' f' => v = some (.int (lookS T i (1 + sb_dg j + 1 + sb_dg W + 1 + sb_dg (mainL (w (j + 200)) 3)))) ∧ ad = ad' ∧ ∃ m9 g9, m9 1 = nI 0 ∧ TFw cy ad cn u w x r (1 + sb_dg j + 1 + sb_dg W + 1 + sb_dg (mainL (w (j + 200)) 3)) m9 g9 = f') := by
  refine ct_of (by decide +kernel) (Nat.le_of_ble_eq_true rfl) ?_
  intro p e s m args below meth c X hnm
  have hI0 := hI
  obtain ⟨⟨hc3, hc4, hc6, hc9, hc12, hc14⟩, ⟨h30, h31, h32⟩, hr6, hr12, hr14⟩ := hI0
  have d1 : sb_dg j ≤ 2 := by rw [dg_j (by omega)]; split <;> omega
  have d2 := dg_le9 hW9
  have d3 : sb_dg (mainL (w (j + 200)) 3) = 1 := if_pos (Nat.lt_of_le_of_lt (mainL_le _ 3) (by decide))
  have d4 := sb_dg_in j
  have d6 : (mainL (w (j + 200)) 3) ≤ 3 := mainL_le _ 3
  have d5 := sb_dg_in W
  refine z_lv (lv' := [(0, .ref (ad 0)), (1, .int (nI j)), (2, .int (nI i))]) [0, 1, 2] rfl ?_
  refine z_aload_n X 0 dX3_label_0 rfl rfl ?_
  refine z_iload_n X 1 dX3_label_1 rfl rfl ?_
  refine z_callV X (n := 1) (As := [.int (nI j)]) (rest := []) 0 rfl (CF_at (k := 0) rfl rfl rfl rfl rfl) rfl (p_findBale_i l G cy B ad cn u w x r hI j hj) q_194 q_195 q_2 q_24 q_196 (by decide +kernel) ⟨Nat.le_of_ble_eq_true rfl, Nat.le_of_ble_eq_true rfl⟩ rfl rfl (Nat.le_of_ble_eq_true rfl) dX3_label_2 ⟨Nat.le_of_ble_eq_true rfl, Nat.le_of_ble_eq_true rfl⟩ (fun v ad' f' hp had => ?_)
  obtain ⟨rfl, rfl, rfl⟩ := hp
  refine z_st (st' := [.ref (ad (j + 100))]) rfl ?_
  refine z_astore_n X (lv' := [(3, .ref (ad (j + 100))), (0, .ref (ad 0)), (1, .int (nI j)), (2, .int (nI i))]) dX3_label_5 rfl (by decide) rfl ?_
  refine z_aload_n X 0 dX3_label_6 rfl rfl ?_
  refine z_ifnonnull X (tgt := 12) dX3_label_7 (by decide) ?_
  refine z_aload_n X 1 dX3_label_12 rfl rfl ?_
  refine z_iload_n X 2 dX3_label_13 rfl rfl ?_
  refine z_aload_n X 0 dX3_label_14 rfl rfl ?_
  refine z_callV X (n := 2) (As := [.int (nI j), .ref (ad (j + 100))]) (rest := []) 0 rfl (CF_at (k := 0) rfl rfl rfl rfl rfl) rfl (p_writeLabel l G cy B ad cn u w x r hI j hj T W hW hW9 hT0 hT1 hT2 hT3 hT4 hT5 hm0 hn0) q_392 q_393 q_12 q_24 q_394 (by decide +kernel) ⟨Nat.le_of_ble_eq_true rfl, Nat.le_of_ble_eq_true rfl⟩ rfl rfl (Nat.le_of_ble_eq_true rfl) dX3_label_15 ⟨Nat.le_of_ble_eq_true rfl, Nat.le_of_ble_eq_true rfl⟩ (fun v ad' f' hp had => ?_)
  obtain ⟨rfl, rfl, m9, g9, hm9, hg9, rfl⟩ := hp
  refine z_st (st' := []) rfl ?_
  refine z_iload_n X 3 dX3_label_18 rfl rfl ?_
  refine z_if_ltN X (tgt := 33) (by omega) dX3_label_19 (by decide) ?_
  refine z_iload_n X 3 dX3_label_22 rfl rfl ?_
  refine z_aload_n X 1 dX3_label_23 rfl rfl ?_
  refine z_get X (v := .ref (ad 16)) 0 15 wa_X3 rfl rfl (CF_at (k := 0) rfl rfl rfl rfl rfl) (by decide) q_100 rfl rfl dX3_label_24 ?_
  refine z_callV X (n := 0) (As := []) (rest := [.int (nI i)]) 16 rfl (CF_at (k := 16) rfl rfl rfl rfl rfl) rfl (tf_len l G cy B ad cn u w x r (1 + sb_dg j + 1 + sb_dg W + 1 + sb_dg (mainL (w (j + 200)) 3)) (by omega) m9 hm9 g9) q_530 q_531 q_532 q_26 q_533 (by decide +kernel) ⟨Nat.le_of_ble_eq_true rfl, Nat.le_of_ble_eq_true rfl⟩ rfl rfl (Nat.le_of_ble_eq_true rfl) dX3_label_27 ⟨Nat.le_of_ble_eq_true rfl, Nat.le_of_ble_eq_true rfl⟩ (fun v ad' f' hp had => ?_)
  obtain ⟨rfl, rfl, rfl⟩ := hp
  refine z_st (st' := [.int (nI (1 + sb_dg j + 1 + sb_dg W + 1 + sb_dg (mainL (w (j + 200)) 3))), .int (nI i)]) rfl ?_
  refine z_icmp_ltN X (tgt := 35) (by omega) (by omega) dX3_label_30 (by decide) (fun c30 => ?_) (fun c30 => ?_)
  · refine z_aload_n X 1 dX3_label_35 rfl rfl ?_
    refine z_get X (v := .ref (ad 16)) 0 15 wa_X3 rfl rfl (CF_at (k := 0) rfl rfl rfl rfl rfl) (by decide) q_100 rfl rfl dX3_label_36 ?_
    refine z_iload_n X 3 dX3_label_39 rfl rfl ?_
    refine z_callV X (n := 1) (As := [.int (nI i)]) (rest := []) 16 rfl (CF_at (k := 16) rfl rfl rfl rfl rfl) rfl (tf_at l G cy B ad cn u w x r (1 + sb_dg j + 1 + sb_dg W + 1 + sb_dg (mainL (w (j + 200)) 3)) (by omega) m9 hm9 g9 i c30 (T i) (hT8 i) (hg9 i c30)) q_537 q_538 q_539 q_26 q_540 (by decide +kernel) ⟨Nat.le_of_ble_eq_true rfl, Nat.le_of_ble_eq_true rfl⟩ rfl rfl (Nat.le_of_ble_eq_true rfl) dX3_label_40 ⟨Nat.le_of_ble_eq_true rfl, Nat.le_of_ble_eq_true rfl⟩ (fun v ad' f' hp had => ?_)
    obtain ⟨rfl, rfl, rfl⟩ := hp
    refine z_st (st' := [.int (nI (T i))]) rfl ?_
    refine z_iret X (Nat.le_of_ble_eq_true rfl) (Nat.le_of_ble_eq_true rfl) ?_ dX3_label_43
    exact ⟨by rw [lookS, if_pos c30], rfl, m9, g9, hm9, rfl⟩
  · refine z_iconst X (v := -1) dX3_label_33 (by decide) ?_
    refine z_iret X (Nat.le_of_ble_eq_true rfl) (Nat.le_of_ble_eq_true rfl) ?_ dX3_label_34
    exact ⟨by rw [lookS, if_neg (by omega)], rfl, m9, g9, hm9, rfl⟩
set_option maxHeartbeats 4000000 in
set_option maxRecDepth 100000 in
theorem p_label_n (l : Launch) (G : va_G) (cy : Nat → ClassId) (B : Nat) (ad : Nat → Nat) (cn : Nat → Nat) (u : Nat → Nat → Int32) (w : Nat → Nat → Int64) (x : Nat → Nat → UInt64) (r : Nat → Nat → Option Nat) (hI : CI ad cn r) (j : Nat) (hj : j < cn 6) (T : Nat → Nat) (W : Nat) (hW : sumL (w (j + 200)) 4 = lN W) (hW9 : W < 10 ^ 9) (hT0 : T 0 = 66) (hT1 : ∀ a, a < sb_dg j → T (1 + a) = sb_dec j a) (hT2 : T (1 + sb_dg j) = 32) (hT3 : ∀ a, a < sb_dg W → T (1 + sb_dg j + 1 + a) = sb_dec W a) (hT4 : T (1 + sb_dg j + 1 + sb_dg W) = 32) (hT5 : ∀ a, a < sb_dg (mainL (w (j + 200)) 3) → T (1 + sb_dg j + 1 + sb_dg W + 1 + a) = sb_dec (mainL (w (j + 200)) 3) a) (hm0 : u 16 1 = nI 0) (hn0 : cn 16 ≤ 16) (hT8 : ∀ a, T a < 128) (k : Int32) (hk : k < 0) : Ct l G cy B yX3_label cX3_label 4 (some .int) ({ frames := 4, cells := 0, slots := 0, locals := 92 } : Room) ad (CF cy ad cn u w x r) [.ref (ad 0), .int (nI j), .int k] (fun v ad' f' => v = some (.int (-1)) ∧ ad = ad' ∧ ∃ m9 g9, m9 1 = nI 0 ∧ TFw cy ad cn u w x r (1 + sb_dg j + 1 + sb_dg W + 1 + sb_dg (mainL (w (j + 200)) 3)) m9 g9 = f') := by
  refine ct_of (by decide +kernel) (Nat.le_of_ble_eq_true rfl) ?_
  intro p e s m args below meth c X hnm
  have hI0 := hI
  obtain ⟨⟨hc3, hc4, hc6, hc9, hc12, hc14⟩, ⟨h30, h31, h32⟩, hr6, hr12, hr14⟩ := hI0
  have d1 : sb_dg j ≤ 2 := by rw [dg_j (by omega)]; split <;> omega
  have d2 := dg_le9 hW9
  have d3 : sb_dg (mainL (w (j + 200)) 3) = 1 := if_pos (Nat.lt_of_le_of_lt (mainL_le _ 3) (by decide))
  have d4 := sb_dg_in j
  have d6 : (mainL (w (j + 200)) 3) ≤ 3 := mainL_le _ 3
  have d5 := sb_dg_in W
  refine z_lv (lv' := [(0, .ref (ad 0)), (1, .int (nI j)), (2, .int k)]) [0, 1, 2] rfl ?_
  refine z_aload_n X 0 dX3_label_0 rfl rfl ?_
  refine z_iload_n X 1 dX3_label_1 rfl rfl ?_
  refine z_callV X (n := 1) (As := [.int (nI j)]) (rest := []) 0 rfl (CF_at (k := 0) rfl rfl rfl rfl rfl) rfl (p_findBale_i l G cy B ad cn u w x r hI j hj) q_194 q_195 q_2 q_24 q_196 (by decide +kernel) ⟨Nat.le_of_ble_eq_true rfl, Nat.le_of_ble_eq_true rfl⟩ rfl rfl (Nat.le_of_ble_eq_true rfl) dX3_label_2 ⟨Nat.le_of_ble_eq_true rfl, Nat.le_of_ble_eq_true rfl⟩ (fun v ad' f' hp had => ?_)
  obtain ⟨rfl, rfl, rfl⟩ := hp
  refine z_st (st' := [.ref (ad (j + 100))]) rfl ?_
  refine z_astore_n X (lv' := [(3, .ref (ad (j + 100))), (0, .ref (ad 0)), (1, .int (nI j)), (2, .int k)]) dX3_label_5 rfl (by decide) rfl ?_
  refine z_aload_n X 0 dX3_label_6 rfl rfl ?_
  refine z_ifnonnull X (tgt := 12) dX3_label_7 (by decide) ?_
  refine z_aload_n X 1 dX3_label_12 rfl rfl ?_
  refine z_iload_n X 2 dX3_label_13 rfl rfl ?_
  refine z_aload_n X 0 dX3_label_14 rfl rfl ?_
  refine z_callV X (n := 2) (As := [.int (nI j), .ref (ad (j + 100))]) (rest := []) 0 rfl (CF_at (k := 0) rfl rfl rfl rfl rfl) rfl (p_writeLabel l G cy B ad cn u w x r hI j hj T W hW hW9 hT0 hT1 hT2 hT3 hT4 hT5 hm0 hn0) q_392 q_393 q_12 q_24 q_394 (by decide +kernel) ⟨Nat.le_of_ble_eq_true rfl, Nat.le_of_ble_eq_true rfl⟩ rfl rfl (Nat.le_of_ble_eq_true rfl) dX3_label_15 ⟨Nat.le_of_ble_eq_true rfl, Nat.le_of_ble_eq_true rfl⟩ (fun v ad' f' hp had => ?_)
  obtain ⟨rfl, rfl, m9, g9, hm9, hg9, rfl⟩ := hp
  refine z_st (st' := []) rfl ?_
  refine z_iload_n X 3 dX3_label_18 rfl rfl ?_
  refine z_if_lt X (tgt := 33) dX3_label_19 (by decide) (fun c19 => ?_) (fun c19 => by exfalso; exact c19 hk)
  refine z_iconst X (v := -1) dX3_label_33 (by decide) ?_
  refine z_iret X (Nat.le_of_ble_eq_true rfl) (Nat.le_of_ble_eq_true rfl) ?_ dX3_label_34
  exact ⟨rfl, rfl, m9, g9, hm9, rfl⟩
set_option maxHeartbeats 4000000 in
set_option maxRecDepth 100000 in
theorem p_label_o (l : Launch) (G : va_G) (cy : Nat → ClassId) (B : Nat) (ad : Nat → Nat) (cn : Nat → Nat) (u : Nat → Nat → Int32) (w : Nat → Nat → Int64) (x : Nat → Nat → UInt64) (r : Nat → Nat → Option Nat) (hI : CI ad cn r) (b : Int32) (hb : ¬ (¬ b < 0 ∧ ¬ nI (cn 6) ≤ b)) (k : Int32) : Ct l G cy B yX3_label cX3_label 4 (some .int) ({ frames := 1, cells := 0, slots := 0, locals := 21 } : Room) ad (CF cy ad cn u w x r) [.ref (ad 0), .int b, .int k] (fun v ad' f' => v = some (.int (-1)) ∧ ad = ad' ∧ CF cy ad cn u w x r = f') := by
  refine ct_of (by decide +kernel) (Nat.le_of_ble_eq_true rfl) ?_
  intro p e s m args below meth c X hnm
  have hI0 := hI
  obtain ⟨⟨hc3, hc4, hc6, hc9, hc12, hc14⟩, ⟨h30, h31, h32⟩, hr6, hr12, hr14⟩ := hI0
  refine z_lv (lv' := [(0, .ref (ad 0)), (1, .int b), (2, .int k)]) [0, 1, 2] rfl ?_
  refine z_aload_n X 0 dX3_label_0 rfl rfl ?_
  refine z_iload_n X 1 dX3_label_1 rfl rfl ?_
  refine z_callV X (n := 1) (As := [.int b]) (rest := []) 0 rfl (CF_at (k := 0) rfl rfl rfl rfl rfl) rfl (p_findBale_o l G cy B ad cn u w x r hI b hb) q_194 q_195 q_2 q_24 q_196 (by decide +kernel) ⟨Nat.le_of_ble_eq_true rfl, Nat.le_of_ble_eq_true rfl⟩ rfl rfl (Nat.le_of_ble_eq_true rfl) dX3_label_2 ⟨Nat.le_of_ble_eq_true rfl, Nat.le_of_ble_eq_true rfl⟩ (fun v ad' f' hp had => ?_)
  obtain ⟨rfl, rfl, rfl⟩ := hp
  refine z_st (st' := [.null]) rfl ?_
  refine z_astore_nN X (lv' := [(3, .null), (0, .ref (ad 0)), (1, .int b), (2, .int k)]) dX3_label_5 rfl (by decide) rfl ?_
  refine z_aload_nN X 0 dX3_label_6 rfl rfl ?_
  refine z_ifnonnullN X dX3_label_7 ?_
  refine z_iconst X (v := -1) dX3_label_10 (by decide) ?_
  refine z_iret X (Nat.le_of_ble_eq_true rfl) (Nat.le_of_ble_eq_true rfl) ?_ dX3_label_11
  exact ⟨rfl, rfl, rfl⟩
set_option maxHeartbeats 4000000 in
set_option maxRecDepth 100000 in
theorem p_init (l : Launch) (G : va_G) (cy : Nat → ClassId) (B : Nat) (ad : Nat → Nat)  : Ct l G cy B yX3_init cX3_init 1 none ({ frames := 3, cells := 10, slots := 651, locals := 53 } : Room) ad (zup (fun _ => none) 0 (.inr (4, [.null, .null, .null, .int 0, .int 0, .null, .int 0, .null, .null, .int 0, .int 0, .null, .int 0, .null, .int 0, .null]))) [.ref (ad 0)] (fun v ad' f' => v = none ∧ CF cy ad' c0n c0u c0w c0x c0r = f') := by
  refine ct_of (by decide +kernel) (Nat.le_of_ble_eq_true rfl) ?_
  intro p e s m args below meth c X hnm
  refine z_lv (lv' := [(0, .ref (ad 0))]) [0] rfl ?_
  refine z_aload_n X 0 dX3_init_0 rfl rfl ?_
  refine z_objInit X q_45 q_46 q_47 dX3_init_1 (Nat.le_of_ble_eq_true rfl) (Nat.le_of_ble_eq_true rfl) ?_
  refine z_aload_n X 0 dX3_init_4 rfl rfl ?_
  refine z_sipush X (v := nI 200) dX3_init_5 (by decide) ?_
  refine z_newa X (atype := .long) (ty := .long) (N' := 200) (a0 := (200, .inr (.inl (fun _ => 0)))) 1 0 ((zup_ne (by decide)).trans rfl) q_81 rfl rfl (fun _ => rfl) (by decide) (by decide) (by decide) (Nat.le_of_ble_eq_true rfl) (Nat.le_of_ble_eq_true rfl) dX3_init_8 (fun a8 => ?_)
  refine z_putF X (ty := .array .long) 0 0 wa_X3 tyX3 tyX3_ok nmX3 rfl ((zad_ne (by decide)).trans rfl) ((zup_ne (by decide)).trans zup_same) (by decide) q_85 rfl rfl hnm rfl (by decide +kernel) rfl rfl (Nat.le_of_ble_eq_true rfl) dX3_init_10 ?_
  refine z_f (congrArg (fun z => zup _ 0 (.inr (4, z))) (show _ = [.ref a8, .null, .null, .int 0, .int 0, .null, .int 0, .null, .null, .int 0, .int 0, .null, .int 0, .null, .int 0, .null] from rfl)) ?_
  refine z_aload_n X 0 dX3_init_13 rfl rfl ?_
  refine z_sipush X (v := nI 200) dX3_init_14 (by decide) ?_
  refine z_newa X (atype := .int) (ty := .int) (N' := 200) (a0 := (200, .inl (fun _ => 0))) 2 1 ((zup_ne (by decide)).trans ((zup_ne (by decide)).trans ((zup_ne (by decide)).trans rfl))) q_82 rfl rfl (fun _ => rfl) (by decide) (by decide) (by decide) (Nat.le_of_ble_eq_true rfl) (Nat.le_of_ble_eq_true rfl) dX3_init_17 (fun a17 => ?_)
  refine z_putF X (ty := .array .int) 0 1 wa_X3 tyX3 tyX3_ok nmX3 rfl ((zad_ne (by decide)).trans ((zad_ne (by decide)).trans rfl)) ((zup_ne (by decide)).trans zup_same) (by decide) q_86 rfl rfl hnm rfl (by decide +kernel) rfl rfl (Nat.le_of_ble_eq_true rfl) dX3_init_19 ?_
  refine z_f (congrArg (fun z => zup _ 0 (.inr (4, z))) (show _ = [.ref a8, .ref a17, .null, .int 0, .int 0, .null, .int 0, .null, .null, .int 0, .int 0, .null, .int 0, .null, .int 0, .null] from rfl)) ?_
  refine z_aload_n X 0 dX3_init_22 rfl rfl ?_
  refine z_sipush X (v := nI 200) dX3_init_23 (by decide) ?_
  refine z_newa X (atype := .long) (ty := .long) (N' := 200) (a0 := (200, .inr (.inl (fun _ => 0)))) 3 0 ((zup_ne (by decide)).trans ((zup_ne (by decide)).trans ((zup_ne (by decide)).trans ((zup_ne (by decide)).trans ((zup_ne (by decide)).trans rfl))))) q_81 rfl rfl (fun _ => rfl) (by decide) (by decide) (by decide) (Nat.le_of_ble_eq_true rfl) (Nat.le_of_ble_eq_true rfl) dX3_init_26 (fun a26 => ?_)
  refine z_putF X (ty := .array .long) 0 2 wa_X3 tyX3 tyX3_ok nmX3 rfl ((zad_ne (by decide)).trans ((zad_ne (by decide)).trans ((zad_ne (by decide)).trans rfl))) ((zup_ne (by decide)).trans zup_same) (by decide) q_87 rfl rfl hnm rfl (by decide +kernel) rfl rfl (Nat.le_of_ble_eq_true rfl) dX3_init_28 ?_
  refine z_f (congrArg (fun z => zup _ 0 (.inr (4, z))) (show _ = [.ref a8, .ref a17, .ref a26, .int 0, .int 0, .null, .int 0, .null, .null, .int 0, .int 0, .null, .int 0, .null, .int 0, .null] from rfl)) ?_
  refine z_aload_n X 0 dX3_init_31 rfl rfl ?_
  refine z_bipush X (v := nI 12) dX3_init_32 (by decide) ?_
  refine z_newq X (N' := 12) 6 4 ((zup_ne (by decide)).trans ((zup_ne (by decide)).trans ((zup_ne (by decide)).trans ((zup_ne (by decide)).trans ((zup_ne (by decide)).trans ((zup_ne (by decide)).trans ((zup_ne (by decide)).trans rfl))))))) q_48 X.2.2.2.2.2.1.2.2.1 rfl (by decide) (by decide) (by decide) (Nat.le_of_ble_eq_true rfl) (Nat.le_of_ble_eq_true rfl) dX3_init_34 (fun a34 => ?_)
  refine z_putF X (ty := .array (.object "BalePress$Bale")) 0 5 wa_X3 tyX3 tyX3_ok nmX3 rfl ((zad_ne (by decide)).trans ((zad_ne (by decide)).trans ((zad_ne (by decide)).trans ((zad_ne (by decide)).trans rfl)))) ((zup_ne (by decide)).trans zup_same) (by decide) q_90 rfl rfl hnm rfl (by decide +kernel) rfl rfl (Nat.le_of_ble_eq_true rfl) dX3_init_37 ?_
  refine z_f (congrArg (fun z => zup _ 0 (.inr (4, z))) (show _ = [.ref a8, .ref a17, .ref a26, .int 0, .int 0, .ref a34, .int 0, .null, .null, .int 0, .int 0, .null, .int 0, .null, .int 0, .null] from rfl)) ?_
  refine z_aload_n X 0 dX3_init_40 rfl rfl ?_
  refine z_bipush X (v := nI 6) dX3_init_41 (by decide) ?_
  refine z_newa X (atype := .double) (ty := .double) (N' := 6) (a0 := (6, .inr (.inr (.inr (.inl (fun _ => 0)))))) 8 2 ((zup_ne (by decide)).trans ((zup_ne (by decide)).trans ((zup_ne (by decide)).trans ((zup_ne (by decide)).trans ((zup_ne (by decide)).trans ((zup_ne (by decide)).trans ((zup_ne (by decide)).trans ((zup_ne (by decide)).trans ((zup_ne (by decide)).trans rfl))))))))) q_83 rfl rfl (fun _ => rfl) (by decide) (by decide) (by decide) (Nat.le_of_ble_eq_true rfl) (Nat.le_of_ble_eq_true rfl) dX3_init_43 (fun a43 => ?_)
  refine z_putF X (ty := .array .double) 0 7 wa_X3 tyX3 tyX3_ok nmX3 rfl ((zad_ne (by decide)).trans ((zad_ne (by decide)).trans ((zad_ne (by decide)).trans ((zad_ne (by decide)).trans ((zad_ne (by decide)).trans rfl))))) ((zup_ne (by decide)).trans zup_same) (by decide) q_92 rfl rfl hnm rfl (by decide +kernel) rfl rfl (Nat.le_of_ble_eq_true rfl) dX3_init_45 ?_
  refine z_f (congrArg (fun z => zup _ 0 (.inr (4, z))) (show _ = [.ref a8, .ref a17, .ref a26, .int 0, .int 0, .ref a34, .int 0, .ref a43, .null, .int 0, .int 0, .null, .int 0, .null, .int 0, .null] from rfl)) ?_
  refine z_aload_n X 0 dX3_init_48 rfl rfl ?_
  refine z_bipush X (v := nI 6) dX3_init_49 (by decide) ?_
  refine z_newa X (atype := .double) (ty := .double) (N' := 6) (a0 := (6, .inr (.inr (.inr (.inl (fun _ => 0)))))) 9 2 ((zup_ne (by decide)).trans ((zup_ne (by decide)).trans ((zup_ne (by decide)).trans ((zup_ne (by decide)).trans ((zup_ne (by decide)).trans ((zup_ne (by decide)).trans ((zup_ne (by decide)).trans ((zup_ne (by decide)).trans ((zup_ne (by decide)).trans ((zup_ne (by decide)).trans ((zup_ne (by decide)).trans rfl))))))))))) q_83 rfl rfl (fun _ => rfl) (by decide) (by decide) (by decide) (Nat.le_of_ble_eq_true rfl) (Nat.le_of_ble_eq_true rfl) dX3_init_51 (fun a51 => ?_)
  refine z_putF X (ty := .array .double) 0 8 wa_X3 tyX3 tyX3_ok nmX3 rfl ((zad_ne (by decide)).trans ((zad_ne (by decide)).trans ((zad_ne (by decide)).trans ((zad_ne (by decide)).trans ((zad_ne (by decide)).trans ((zad_ne (by decide)).trans rfl)))))) ((zup_ne (by decide)).trans zup_same) (by decide) q_93 rfl rfl hnm rfl (by decide +kernel) rfl rfl (Nat.le_of_ble_eq_true rfl) dX3_init_53 ?_
  refine z_f (congrArg (fun z => zup _ 0 (.inr (4, z))) (show _ = [.ref a8, .ref a17, .ref a26, .int 0, .int 0, .ref a34, .int 0, .ref a43, .ref a51, .int 0, .int 0, .null, .int 0, .null, .int 0, .null] from rfl)) ?_
  refine z_aload_n X 0 dX3_init_56 rfl rfl ?_
  refine z_iconst X (v := nI 4) dX3_init_57 (by decide) ?_
  refine z_newq X (N' := 4) 12 6 ((zup_ne (by decide)).trans ((zup_ne (by decide)).trans ((zup_ne (by decide)).trans ((zup_ne (by decide)).trans ((zup_ne (by decide)).trans ((zup_ne (by decide)).trans ((zup_ne (by decide)).trans ((zup_ne (by decide)).trans ((zup_ne (by decide)).trans ((zup_ne (by decide)).trans ((zup_ne (by decide)).trans ((zup_ne (by decide)).trans ((zup_ne (by decide)).trans rfl))))))))))))) q_49 X.2.2.2.2.2.1.2.2.2.2.1 rfl (by decide) (by decide) (by decide) (Nat.le_of_ble_eq_true rfl) (Nat.le_of_ble_eq_true rfl) dX3_init_58 (fun a58 => ?_)
  refine z_putF X (ty := .array (.object "BalePress$Stack")) 0 11 wa_X3 tyX3 tyX3_ok nmX3 rfl ((zad_ne (by decide)).trans ((zad_ne (by decide)).trans ((zad_ne (by decide)).trans ((zad_ne (by decide)).trans ((zad_ne (by decide)).trans ((zad_ne (by decide)).trans ((zad_ne (by decide)).trans rfl))))))) ((zup_ne (by decide)).trans zup_same) (by decide) q_96 rfl rfl hnm rfl (by decide +kernel) rfl rfl (Nat.le_of_ble_eq_true rfl) dX3_init_61 ?_
  refine z_f (congrArg (fun z => zup _ 0 (.inr (4, z))) (show _ = [.ref a8, .ref a17, .ref a26, .int 0, .int 0, .ref a34, .int 0, .ref a43, .ref a51, .int 0, .int 0, .ref a58, .int 0, .null, .int 0, .null] from rfl)) ?_
  refine z_aload_n X 0 dX3_init_64 rfl rfl ?_
  refine z_iconst X (v := nI 3) dX3_init_65 (by decide) ?_
  refine z_newq X (N' := 3) 14 5 ((zup_ne (by decide)).trans ((zup_ne (by decide)).trans ((zup_ne (by decide)).trans ((zup_ne (by decide)).trans ((zup_ne (by decide)).trans ((zup_ne (by decide)).trans ((zup_ne (by decide)).trans ((zup_ne (by decide)).trans ((zup_ne (by decide)).trans ((zup_ne (by decide)).trans ((zup_ne (by decide)).trans ((zup_ne (by decide)).trans ((zup_ne (by decide)).trans ((zup_ne (by decide)).trans ((zup_ne (by decide)).trans rfl))))))))))))))) q_50 X.2.2.2.2.2.1.2.2.2.1 rfl (by decide) (by decide) (by decide) (Nat.le_of_ble_eq_true rfl) (Nat.le_of_ble_eq_true rfl) dX3_init_66 (fun a66 => ?_)
  refine z_putF X (ty := .array (.object "BalePress$Lorry")) 0 13 wa_X3 tyX3 tyX3_ok nmX3 rfl ((zad_ne (by decide)).trans ((zad_ne (by decide)).trans ((zad_ne (by decide)).trans ((zad_ne (by decide)).trans ((zad_ne (by decide)).trans ((zad_ne (by decide)).trans ((zad_ne (by decide)).trans ((zad_ne (by decide)).trans rfl)))))))) ((zup_ne (by decide)).trans zup_same) (by decide) q_98 rfl rfl hnm rfl (by decide +kernel) rfl rfl (Nat.le_of_ble_eq_true rfl) dX3_init_69 ?_
  refine z_f (congrArg (fun z => zup _ 0 (.inr (4, z))) (show _ = [.ref a8, .ref a17, .ref a26, .int 0, .int 0, .ref a34, .int 0, .ref a43, .ref a51, .int 0, .int 0, .ref a58, .int 0, .ref a66, .int 0, .null] from rfl)) ?_
  refine z_aload_n X 0 dX3_init_72 rfl rfl ?_
  refine z_new X (ci := 0) (fs := [.null, .int 0, .int 0, .int 0]) 16 wa_J4 tyJ4 tyJ4_ok rfl ((zup_ne (by decide)).trans ((zup_ne (by decide)).trans ((zup_ne (by decide)).trans ((zup_ne (by decide)).trans ((zup_ne (by decide)).trans ((zup_ne (by decide)).trans ((zup_ne (by decide)).trans ((zup_ne (by decide)).trans ((zup_ne (by decide)).trans ((zup_ne (by decide)).trans ((zup_ne (by decide)).trans ((zup_ne (by decide)).trans ((zup_ne (by decide)).trans ((zup_ne (by decide)).trans ((zup_ne (by decide)).trans ((zup_ne (by decide)).trans ((zup_ne (by decide)).trans rfl))))))))))))))))) q_51 q_52 q_26 (by decide) (Nat.le_of_ble_eq_true rfl) (Nat.le_of_ble_eq_true rfl) dX3_init_73 (fun a73 => ?_)
  refine z_dup X dX3_init_76 rfl ?_
  refine z_callI X (n := 0) (As := []) (rest := [.ref a73, .ref (ad 0)]) (t_init l G cy B (zad (zad (zad (zad (zad (zad (zad (zad (zad (ad) 1 a8) 2 a17) 3 a26) 6 a34) 8 a43) 9 a51) 12 a58) 14 a66) 16 a73) (zup (zup (zup (zup (zup (zup (zup (zup (zup (zup (zup (zup (zup (zup (zup (zup (zup (zup (fun _ => none) 0 (.inr (4, [.null, .null, .null, .int 0, .int 0, .null, .int 0, .null, .null, .int 0, .int 0, .null, .int 0, .null, .int 0, .null]))) 1 (.inl (cy 0, 200, .inr (.inl (fun _ => 0))))) 0 (.inr (4, [.ref a8, .null, .null, .int 0, .int 0, .null, .int 0, .null, .null, .int 0, .int 0, .null, .int 0, .null, .int 0, .null]))) 2 (.inl (cy 1, 200, .inl (fun _ => 0)))) 0 (.inr (4, [.ref a8, .ref a17, .null, .int 0, .int 0, .null, .int 0, .null, .null, .int 0, .int 0, .null, .int 0, .null, .int 0, .null]))) 3 (.inl (cy 0, 200, .inr (.inl (fun _ => 0))))) 0 (.inr (4, [.ref a8, .ref a17, .ref a26, .int 0, .int 0, .null, .int 0, .null, .null, .int 0, .int 0, .null, .int 0, .null, .int 0, .null]))) 6 (.inl (cy 4, 12, .inr (.inr (.inr (.inr (fun _ => none))))))) 0 (.inr (4, [.ref a8, .ref a17, .ref a26, .int 0, .int 0, .ref a34, .int 0, .null, .null, .int 0, .int 0, .null, .int 0, .null, .int 0, .null]))) 8 (.inl (cy 2, 6, .inr (.inr (.inr (.inl (fun _ => 0))))))) 0 (.inr (4, [.ref a8, .ref a17, .ref a26, .int 0, .int 0, .ref a34, .int 0, .ref a43, .null, .int 0, .int 0, .null, .int 0, .null, .int 0, .null]))) 9 (.inl (cy 2, 6, .inr (.inr (.inr (.inl (fun _ => 0))))))) 0 (.inr (4, [.ref a8, .ref a17, .ref a26, .int 0, .int 0, .ref a34, .int 0, .ref a43, .ref a51, .int 0, .int 0, .null, .int 0, .null, .int 0, .null]))) 12 (.inl (cy 6, 4, .inr (.inr (.inr (.inr (fun _ => none))))))) 0 (.inr (4, [.ref a8, .ref a17, .ref a26, .int 0, .int 0, .ref a34, .int 0, .ref a43, .ref a51, .int 0, .int 0, .ref a58, .int 0, .null, .int 0, .null]))) 14 (.inl (cy 5, 3, .inr (.inr (.inr (.inr (fun _ => none))))))) 0 (.inr (4, [.ref a8, .ref a17, .ref a26, .int 0, .int 0, .ref a34, .int 0, .ref a43, .ref a51, .int 0, .int 0, .ref a58, .int 0, .ref a66, .int 0, .null]))) 16 (.inr (0, [.null, .int 0, .int 0, .int 0]))) 16 17 (by decide) zup_same rfl) q_53 q_54 q_26 q_55 rfl (by decide +kernel) ⟨Nat.le_of_ble_eq_true rfl, Nat.le_of_ble_eq_true rfl⟩ rfl rfl (Nat.le_of_ble_eq_true rfl) dX3_init_77 ⟨Nat.le_of_ble_eq_true rfl, Nat.le_of_ble_eq_true rfl⟩ (fun v ad' f' hp had => ?_)
  obtain ⟨rfl, a9, rfl, rfl⟩ := hp
  refine z_st (st' := [.ref a73, .ref (ad 0)]) rfl ?_
  refine z_putF X (ty := .object "java/lang/StringBuilder") 0 15 wa_X3 tyX3 tyX3_ok nmX3 rfl ((zad_ne (by decide)).trans ((zad_ne (by decide)).trans ((zad_ne (by decide)).trans ((zad_ne (by decide)).trans ((zad_ne (by decide)).trans ((zad_ne (by decide)).trans ((zad_ne (by decide)).trans ((zad_ne (by decide)).trans ((zad_ne (by decide)).trans ((zad_ne (by decide)).trans rfl)))))))))) ((zup_ne (by decide)).trans ((zup_ne (by decide)).trans ((zup_ne (by decide)).trans zup_same))) (by decide) q_100 rfl rfl hnm rfl (by decide +kernel) rfl rfl (Nat.le_of_ble_eq_true rfl) dX3_init_80 ?_
  refine z_f (congrArg (fun z => zup _ 0 (.inr (4, z))) (show _ = [.ref a8, .ref a17, .ref a26, .int 0, .int 0, .ref a34, .int 0, .ref a43, .ref a51, .int 0, .int 0, .ref a58, .int 0, .ref a66, .int 0, .ref a73] from rfl)) ?_
  refine z_aload_n X 0 dX3_init_83 rfl rfl ?_
  refine z_iconst X (v := nI 1) dX3_init_84 (by decide) ?_
  refine z_put X (ty := .int) 0 10 wa_X3 tyX3 tyX3_ok nmX3 rfl ((zad_ne (by decide)).trans ((zad_ne (by decide)).trans ((zad_ne (by decide)).trans ((zad_ne (by decide)).trans ((zad_ne (by decide)).trans ((zad_ne (by decide)).trans ((zad_ne (by decide)).trans ((zad_ne (by decide)).trans ((zad_ne (by decide)).trans ((zad_ne (by decide)).trans rfl)))))))))) zup_same (by decide) q_95 rfl rfl (by decide +kernel) rfl rfl (Nat.le_of_ble_eq_true rfl) dX3_init_85 ?_
  refine z_f (congrArg (fun z => zup _ 0 (.inr (4, z))) (show _ = [.ref a8, .ref a17, .ref a26, .int 0, .int 0, .ref a34, .int 0, .ref a43, .ref a51, .int 0, .int (nI 1), .ref a58, .int 0, .ref a66, .int 0, .ref a73] from rfl)) ?_
  refine z_vret X (Nat.le_of_ble_eq_true rfl) (Nat.le_of_ble_eq_true rfl) ?_ dX3_init_88
  exact ⟨rfl, CF_0 (fun k hk => by match k, hk with | 0, _ => exact rfl | 1, _ => exact rfl | 2, _ => exact rfl | 3, _ => exact rfl | 4, _ => exact rfl | 5, _ => exact rfl | 6, _ => exact rfl | 7, _ => exact rfl | 8, _ => exact rfl | 9, _ => exact rfl | 10, _ => exact rfl | 11, _ => exact rfl | 12, _ => exact rfl | 13, _ => exact rfl | 14, _ => exact rfl | 15, _ => exact rfl | 16, _ => exact rfl | 17, _ => exact rfl | k + 18, h => exact absurd h (by omega)) (fun j hj => by simp only [zup, show j ≠ 0 by omega, show j ≠ 1 by omega, show j ≠ 2 by omega, show j ≠ 3 by omega, show j ≠ 6 by omega, show j ≠ 8 by omega, show j ≠ 9 by omega, show j ≠ 12 by omega, show j ≠ 14 by omega, show j ≠ 16 by omega, show j ≠ 17 by omega, if_false])⟩
