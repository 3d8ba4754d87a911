/-! THE REFERENCE, second part -/
abbrev okRowM (cn : Nat → Nat) (x : Nat → Nat → UInt64) (d h : UInt64) : Prop := cn 14 ≠ 6 ∧ (dGe d 13855605728582041600 = true ∧ dLe d 4641240890982006784 = true) ∧ (dGe h 0 = true ∧ dLe h 4621819117588971520 = true) ∧ ¬ (0 < cn 14 ∧ dLe d (x 15 (cn 14 - 1)) = true)
def gainL (dg ht : Nat → UInt64) (t : UInt64) : Nat → UInt64
  | 0 => 0
  | n + 1 => if dLe (dg n) t = true then ht n else gainL dg ht t n
def stepR (gn o t t' : UInt64) : Prop := ∃ a b c, alike64 a (FP.dadd t gn) = true ∧ alike64 b (FP.dsub t o) = true ∧ alike64 c (FP.dmul b 4593671619917905920) = true ∧ alike64 t' (FP.dsub a c) = true
/-- n hours: warmth, streak, spell before and after -/
def warmR (dg ht : Nat → UInt64) (nr : Nat) (o : UInt64) : Nat → UInt64 → Int32 → Int32 → UInt64 → Int32 → Int32 → Prop
  | 0, t, sk, sp, t', sk', sp' => t' = t ∧ sk' = sk ∧ sp' = sp
  | n + 1, t, sk, sp, t', sk', sp' => ∃ t1 sk1 sp1, warmR dg ht nr o n t sk sp t1 sk1 sp1 ∧ stepR (gainL dg ht t1 nr) o t1 t' ∧ sk' = (if dGe t' 4633641066610819072 = true then sk1 + nI 1 else nI 0) ∧ sp' = (if sp1 < sk' then sk' else sp1)
theorem upd_self {f : Nat → Int32} {k : Nat} : upd f k (f k) = f := by
  funext j
  unfold upd
  by_cases h : j = k
  · subst h; rw [if_pos rfl]
  · rw [if_neg h]
theorem vfu_self {f : Nat → UInt64} {k : Nat} : vf_upd f k (f k) = f := by
  funext j
  unfold vf_upd
  by_cases h : j = k
  · subst h; rw [if_pos rfl]
  · rw [if_neg h]
def scanK (p : Nat → Bool) (k : Int32) : Nat → Nat → Nat → Int32
  | 0, _, _ => -1
  | n + 1, b, s => if p b = true then (if nI s = k then nI b else scanK p k n (b + 1) (s + 1)) else scanK p k n (b + 1) s
theorem scanK_f {p : Nat → Bool} {k : Int32} {n i s : Nat} (hn : i < n) (h : p i = false) : scanK p k (n - (i + 1)) (i + 1) s = scanK p k (n - i) i s := by
  rw [show n - i = (n - (i + 1)) + 1 by omega, scanK, if_neg (by rw [h]; exact Bool.false_ne_true)]
theorem scanK_n {p : Nat → Bool} {k : Int32} {n i s : Nat} (hn : i < n) (h : p i = true) (h2 : ¬ nI s = k) : scanK p k (n - (i + 1)) (i + 1) (s + 1) = scanK p k (n - i) i s := by
  rw [show n - i = (n - (i + 1)) + 1 by omega, scanK, if_pos h, if_neg h2]
theorem scanK_y {p : Nat → Bool} {k : Int32} {n i s : Nat} (hn : i < n) (h : p i = true) (h2 : nI s = k) : nI i = scanK p k (n - i) i s := by
  rw [show n - i = (n - (i + 1)) + 1 by omega, scanK, if_pos h, if_pos h2]
abbrev alarmP (u : Nat → Nat → Int32) (b : Nat) : Prop := ¬ nI 2 ≤ u 6 b ∧ ¬ u 8 b < u 0 17
def scanF (p : Nat → Bool) : Nat → Nat → Nat
  | 0, b => b
  | n + 1, b => if p b = true then b else scanF p n (b + 1)
theorem scanF_n {p : Nat → Bool} {n i : Nat} (hn : i < n) (h : p i = false) : scanF p (n - (i + 1)) (i + 1) = scanF p (n - i) i := by
  rw [show n - i = (n - (i + 1)) + 1 by omega, scanF, if_neg (by rw [h]; exact Bool.false_ne_true)]
theorem scanF_y {p : Nat → Bool} {n i : Nat} (hn : i < n) (h : p i = true) : scanF p (n - i) i = i := by
  rw [show n - i = (n - (i + 1)) + 1 by omega, scanF, if_pos h]
abbrev okStackM (cn : Nat → Nat) (g h : Int32) : Prop := cn 18 ≠ 4 ∧ (0 ≤ g.toInt64 ∧ g.toInt64 ≤ 3) ∧ (1 ≤ h.toInt64 ∧ h.toInt64 ≤ 6)
abbrev hiN (a b : Nat) : Nat := if a < b then b else a
abbrev loN (a b : Nat) : Nat := if a < b then a else b
abbrev closeM (g : Nat → Int32) (a b : Nat) : Prop := hiN a b = loN a b ∨ ¬ g (hiN a b) < nI (hiN a b - loN a b)
def cntN (p : Nat → Bool) : Nat → Nat
  | 0 => 0
  | n + 1 => cntN p n + (if p n = true then 1 else 0)
theorem cntN_le (p : Nat → Bool) : ∀ n, cntN p n ≤ n
  | 0 => Nat.le_refl 0
  | n + 1 => by
    unfold cntN
    have := cntN_le p n
    split <;> omega
theorem anyB_s {P : Nat → Prop} [DecidablePred P] {i : Nat} (h : ¬ P i) : anyB (fun f => decide (P f)) (i + 1) = anyB (fun f => decide (P f)) i := by
  unfold anyB
  rw [decide_eq_false h, Bool.or_false]
  cases i <;> rfl
abbrev onM (u : Nat → Nat → Int32) (st : Int32) (b : Nat) : Prop := u 6 b = nI 1 ∧ u 10 b = st
abbrev othM (cn : Nat → Nat) (u : Nat → Nat → Int32) (w : Nat → Nat → Int64) (j : Nat) (st : Int32) (b : Nat) : Prop := onM u st b ∧ mainM cn u w b ≠ mainM cn u w j
abbrev nearP (u : Nat → Nat → Int32) (st b : Nat) : Prop := u 6 b = nI 1 ∧ closeM (u 19) (u 10 b).toNatClampNeg st
def nearM (cn : Nat → Nat) (u : Nat → Nat → Int32) (w : Nat → Nat → Int64) (j st n : Nat) : Int64 := weightM cn u w j + sumL (fun b => if nearP u st b then weightM cn u w b else 0) n
theorem nearM_t {cn : Nat → Nat} {u : Nat → Nat → Int32} {w : Nat → Nat → Int64} {j st i : Nat} {s : Int64} (hs : s = nearM cn u w j st i) (h : nearP u st i) : s + weightM cn u w i = nearM cn u w j st (i + 1) := by
  rw [hs, nearM, nearM, Int64.add_assoc]
  exact congrArg (fun z => weightM cn u w j + (sumL (fun b => if nearP u st b then weightM cn u w b else 0) i + z)) (if_pos h).symm
theorem nearM_f {cn : Nat → Nat} {u : Nat → Nat → Int32} {w : Nat → Nat → Int64} {j st i : Nat} {s : Int64} (hs : s = nearM cn u w j st i) (h : ¬ nearP u st i) : s = nearM cn u w j st (i + 1) := by
  rw [hs, nearM, nearM]
  have e : sumL (fun b => if nearP u st b then weightM cn u w b else 0) (i + 1) = sumL (fun b => if nearP u st b then weightM cn u w b else 0) i + 0 := congrArg (fun z => sumL (fun b => if nearP u st b then weightM cn u w b else 0) i + z) (if_neg h)
  rw [e, Int64.add_zero]
def putM (cn : Nat → Nat) (u : Nat → Nat → Int32) (w : Nat → Nat → Int64) (x : Nat → Nat → UInt64) (j st : Nat) : Nat :=
  if ¬ u 6 j = 0 then 2 else if ¬ nI (cntN (fun b => decide (onM u (nI st) b)) (cn 5)) < u 20 st then 3 else if dGe (x 7 j) 4633641066610819072 = true then 4 else if anyB (fun b => decide (othM cn u w j (nI st) b)) (cn 5) = true then 5 else if ¬ nearM cn u w j st (cn 5) ≤ 1000000 then 6 else 0
abbrev firstP (cn : Nat → Nat) (u : Nat → Nat → Int32) (w : Nat → Nat → Int64) (k : Int32) (b : Nat) : Prop := u 6 b = nI 1 ∧ nI (mainM cn u w b) = k
abbrev okLorryM (cn : Nat → Nat) (a b : Int64) : Prop := cn 21 ≠ 3 ∧ (0 ≤ a ∧ a ≤ 100000000) ∧ (0 ≤ b ∧ b ≤ 100000000)
def loadM (cn : Nat → Nat) (u : Nat → Nat → Int32) (w : Nat → Nat → Int64) (li mm c : Nat) : Int64 := sumL (fun i => weightM cn u w (u 24 (8 * li + i)).toNatClampNeg * lN (if mm = 1 then i + 1 else 1)) c
set_option maxHeartbeats 4000000 in
set_option maxRecDepth 100000 in
theorem m_row (l : Launch) (G : va_G) (cy : Nat → ClassId) (B : Nat) (ad : Nat → Nat) (cn : Nat → Nat) (u : Nat → Nat → Int32) (w : Nat → Nat → Int64) (x : Nat → Nat → UInt64) (hc14 : cn 14 ≤ 6) (dg ht : UInt64) : Ct l G cy B yX4_row cX4_row 5 (some .boolean) ({ frames := 1, cells := 0, slots := 0, locals := 25 } : Room) ad (MF cy ad cn u w x) [.ref (ad 0), .double dg, .double ht] (fun v ad' f' => v = some (.int (nI (if okRowM cn x dg ht then 1 else 0))) ∧ ad = ad' ∧ (if okRowM cn x dg ht then MF cy ad (va_up cn 14 (cn 14 + 1)) u w (va_up (va_up x 15 (vf_upd (x 15) (cn 14) dg)) 16 (vf_upd (x 16) (cn 14) ht)) else MF cy ad cn u w x) = f') := by
  refine ct_of (by decide +kernel) (Nat.le_of_ble_eq_true rfl) ?_
  intro p e s m args below meth c X hnm
  refine z_lv (lv' := [(0, .ref (ad 0)), (1, .double dg), (3, .double ht)]) [0, 1, 2] rfl ?_
  refine z_aload_n X 0 dX4_row_0 rfl rfl ?_
  refine z_get X (v := .int (nI (cn 14))) 0 14 wa_X4 rfl rfl rfl (by decide) q_573 rfl rfl dX4_row_1 ?_
  refine z_bipush X (v := nI 6) dX4_row_4 (by decide) ?_
  refine z_icmp_eqN X (tgt := 56) (by omega) (by omega) dX4_row_6 (by decide) (fun c6 => ?_) (fun c6 => ?_)
  · refine z_iconst X (v := nI 0) dX4_row_56 (by decide) ?_
    refine z_zret rfl X (Nat.le_of_ble_eq_true rfl) (Nat.le_of_ble_eq_true rfl) ?_ dX4_row_57
    have h9 : ¬ okRowM cn x dg ht := fun h9 => h9.1 c6
    exact ⟨by rw [if_neg h9], rfl, by rw [if_neg h9]⟩
  · refine z_dload_n X 1 dX4_row_9 rfl rfl ?_
    refine z_ldc2d X dX4_row_10 q_711 ?_
    refine z_ldc2d X dX4_row_13 q_712 ?_
    refine z_callS X (n := 3) (As := [.double dg, .double 13855605728582041600, .double 4641240890982006784]) (rest := []) (c_X4_isWithin l G cy B ad (MF cy ad cn u w x) dg 13855605728582041600 4641240890982006784) q_697 q_698 q_29 q_699 (by decide +kernel) ⟨Nat.le_of_ble_eq_true rfl, Nat.le_of_ble_eq_true rfl⟩ rfl rfl (Nat.le_of_ble_eq_true rfl) dX4_row_16 ⟨Nat.le_of_ble_eq_true rfl, Nat.le_of_ble_eq_true rfl⟩ (fun v ad' f' hp had => ?_)
    obtain ⟨rfl, rfl, rfl⟩ := hp
    refine z_st (st' := [.int (nI (if dGe dg 13855605728582041600 = true ∧ dLe dg 4641240890982006784 = true then 1 else 0))]) rfl ?_
    refine z_if_eqB X (tgt := 56) dX4_row_19 (by decide) (fun c19 => ?_) (fun c19 => ?_)
    · refine z_iconst X (v := nI 0) dX4_row_56 (by decide) ?_
      refine z_zret rfl X (Nat.le_of_ble_eq_true rfl) (Nat.le_of_ble_eq_true rfl) ?_ dX4_row_57
      have h9 : ¬ okRowM cn x dg ht := fun h9 => c19 h9.2.1
      exact ⟨by rw [if_neg h9], rfl, by rw [if_neg h9]⟩
    · refine z_dload_n X 2 dX4_row_22 rfl rfl ?_
      refine z_dconst0 X dX4_row_23 ?_
      refine z_ldc2d X dX4_row_24 q_713 ?_
      refine z_callS X (n := 3) (As := [.double ht, .double 0, .double 4621819117588971520]) (rest := []) (c_X4_isWithin l G cy B ad (MF cy ad cn u w x) ht 0 4621819117588971520) q_697 q_698 q_29 q_699 (by decide +kernel) ⟨Nat.le_of_ble_eq_true rfl, Nat.le_of_ble_eq_true rfl⟩ rfl rfl (Nat.le_of_ble_eq_true rfl) dX4_row_27 ⟨Nat.le_of_ble_eq_true rfl, Nat.le_of_ble_eq_true rfl⟩ (fun v ad' f' hp had => ?_)
      obtain ⟨rfl, rfl, rfl⟩ := hp
      refine z_st (st' := [.int (nI (if dGe ht 0 = true ∧ dLe ht 4621819117588971520 = true then 1 else 0))]) rfl ?_
      refine z_if_eqB X (tgt := 56) dX4_row_30 (by decide) (fun c30 => ?_) (fun c30 => ?_)
      · refine z_iconst X (v := nI 0) dX4_row_56 (by decide) ?_
        refine z_zret rfl X (Nat.le_of_ble_eq_true rfl) (Nat.le_of_ble_eq_true rfl) ?_ dX4_row_57
        have h9 : ¬ okRowM cn x dg ht := fun h9 => c30 h9.2.2.1
        exact ⟨by rw [if_neg h9], rfl, by rw [if_neg h9]⟩
      · refine z_aload_n X 0 dX4_row_33 rfl rfl ?_
        refine z_get X (v := .int (nI (cn 14))) 0 14 wa_X4 rfl rfl rfl (by decide) q_573 rfl rfl dX4_row_34 ?_
        refine z_if_leN X (tgt := 58) (by omega) dX4_row_37 (by decide) (fun c37 => ?_) (fun c37 => ?_)
        · refine z_aload_n X 0 dX4_row_58 rfl rfl ?_
          refine z_get X (v := .ref (ad 15)) 0 15 wa_X4 rfl rfl rfl (by decide) q_574 rfl rfl dX4_row_59 ?_
          refine z_aload_n X 0 dX4_row_62 rfl rfl ?_
          refine z_get X (v := .int (nI (cn 14))) 0 14 wa_X4 rfl rfl rfl (by decide) q_573 rfl rfl dX4_row_63 ?_
          refine z_dload_n X 1 dX4_row_66 rfl rfl ?_
          refine z_dastN X (n := 6) (g := x 15) 15 rfl rfl (by omega) (by decide) dX4_row_67 ?_
          refine z_f (MF_x 15 6 rfl (by decide) _) ?_
          refine z_aload_n X 0 dX4_row_68 rfl rfl ?_
          refine z_get X (v := .ref (ad 16)) 0 16 wa_X4 rfl rfl rfl (by decide) q_575 rfl rfl dX4_row_69 ?_
          refine z_aload_n X 0 dX4_row_72 rfl rfl ?_
          refine z_get X (v := .int (nI (cn 14))) 0 14 wa_X4 rfl rfl rfl (by decide) q_573 rfl rfl dX4_row_73 ?_
          refine z_dload_n X 2 dX4_row_76 rfl rfl ?_
          refine z_dastN X (n := 6) (g := x 16) 16 rfl rfl (by omega) (by decide) dX4_row_77 ?_
          refine z_f (MF_x 16 6 rfl (by decide) _) ?_
          refine z_aload_n X 0 dX4_row_78 rfl rfl ?_
          refine z_dup X dX4_row_79 rfl ?_
          refine z_get X (v := .int (nI (cn 14))) 0 14 wa_X4 rfl rfl rfl (by decide) q_573 rfl rfl dX4_row_80 ?_
          refine z_iconst X (v := nI 1) dX4_row_83 (by decide) ?_
          refine z_iaddN X dX4_row_84 ?_
          refine z_put X (ty := .int) 0 14 wa_X4 tyX4 tyX4_ok nmX4 rfl rfl rfl (by decide) q_573 rfl rfl (by decide +kernel) rfl rfl (Nat.le_of_ble_eq_true rfl) dX4_row_85 ?_
          refine z_f (MF_c (cn' := va_up cn 14 ((cn 14) + 1)) rfl) ?_
          refine z_iconst X (v := nI 1) dX4_row_88 (by decide) ?_
          refine z_zret rfl X (Nat.le_of_ble_eq_true rfl) (Nat.le_of_ble_eq_true rfl) ?_ dX4_row_89
          have h9 : okRowM cn x dg ht := ⟨c6, c19, c30, fun h => absurd h.1 (by omega)⟩
          exact ⟨by rw [if_pos h9], rfl, by rw [if_pos h9]⟩
        · refine z_dload_n X 1 dX4_row_40 rfl rfl ?_
          refine z_aload_n X 0 dX4_row_41 rfl rfl ?_
          refine z_get X (v := .ref (ad 15)) 0 15 wa_X4 rfl rfl rfl (by decide) q_574 rfl rfl dX4_row_42 ?_
          refine z_aload_n X 0 dX4_row_45 rfl rfl ?_
          refine z_get X (v := .int (nI (cn 14))) 0 14 wa_X4 rfl rfl rfl (by decide) q_573 rfl rfl dX4_row_46 ?_
          refine z_iconst X (v := nI 1) dX4_row_49 (by decide) ?_
          refine z_isubN X (by omega) dX4_row_50 ?_
          refine z_daldN X (n := 6) (g := x 15) 15 rfl rfl (by omega) (by decide) dX4_row_51 ?_
          refine z_dcmp_gt X (tgt := 58) dX4_row_52 dX4_row_53 (by decide) (fun c52 => ?_) (fun c52 => ?_)
          · refine z_aload_n X 0 dX4_row_58 rfl rfl ?_
            refine z_get X (v := .ref (ad 15)) 0 15 wa_X4 rfl rfl rfl (by decide) q_574 rfl rfl dX4_row_59 ?_
            refine z_aload_n X 0 dX4_row_62 rfl rfl ?_
            refine z_get X (v := .int (nI (cn 14))) 0 14 wa_X4 rfl rfl rfl (by decide) q_573 rfl rfl dX4_row_63 ?_
            refine z_dload_n X 1 dX4_row_66 rfl rfl ?_
            refine z_dastN X (n := 6) (g := x 15) 15 rfl rfl (by omega) (by decide) dX4_row_67 ?_
            refine z_f (MF_x 15 6 rfl (by decide) _) ?_
            refine z_aload_n X 0 dX4_row_68 rfl rfl ?_
            refine z_get X (v := .ref (ad 16)) 0 16 wa_X4 rfl rfl rfl (by decide) q_575 rfl rfl dX4_row_69 ?_
            refine z_aload_n X 0 dX4_row_72 rfl rfl ?_
            refine z_get X (v := .int (nI (cn 14))) 0 14 wa_X4 rfl rfl rfl (by decide) q_573 rfl rfl dX4_row_73 ?_
            refine z_dload_n X 2 dX4_row_76 rfl rfl ?_
            refine z_dastN X (n := 6) (g := x 16) 16 rfl rfl (by omega) (by decide) dX4_row_77 ?_
            refine z_f (MF_x 16 6 rfl (by decide) _) ?_
            refine z_aload_n X 0 dX4_row_78 rfl rfl ?_
            refine z_dup X dX4_row_79 rfl ?_
            refine z_get X (v := .int (nI (cn 14))) 0 14 wa_X4 rfl rfl rfl (by decide) q_573 rfl rfl dX4_row_80 ?_
            refine z_iconst X (v := nI 1) dX4_row_83 (by decide) ?_
            refine z_iaddN X dX4_row_84 ?_
            refine z_put X (ty := .int) 0 14 wa_X4 tyX4 tyX4_ok nmX4 rfl rfl rfl (by decide) q_573 rfl rfl (by decide +kernel) rfl rfl (Nat.le_of_ble_eq_true rfl) dX4_row_85 ?_
            refine z_f (MF_c (cn' := va_up cn 14 ((cn 14) + 1)) rfl) ?_
            refine z_iconst X (v := nI 1) dX4_row_88 (by decide) ?_
            refine z_zret rfl X (Nat.le_of_ble_eq_true rfl) (Nat.le_of_ble_eq_true rfl) ?_ dX4_row_89
            have h9 : okRowM cn x dg ht := ⟨c6, c19, c30, fun h => absurd h.2 (by rw [c52]; exact Bool.false_ne_true)⟩
            exact ⟨by rw [if_pos h9], rfl, by rw [if_pos h9]⟩
          · refine z_iconst X (v := nI 0) dX4_row_56 (by decide) ?_
            refine z_zret rfl X (Nat.le_of_ble_eq_true rfl) (Nat.le_of_ble_eq_true rfl) ?_ dX4_row_57
            have h9 : ¬ okRowM cn x dg ht := fun h9 => h9.2.2.2 ⟨c37, c52⟩
            exact ⟨by rw [if_neg h9], rfl, by rw [if_neg h9]⟩
set_option maxHeartbeats 4000000 in
set_option maxRecDepth 100000 in
theorem m_warm_i (l : Launch) (G : va_G) (cy : Nat → ClassId) (B : Nat) (ad : Nat → Nat) (cn : Nat → Nat) (u : Nat → Nat → Int32) (w : Nat → Nat → Int64) (x : Nat → Nat → UInt64) (hc5 : cn 5 ≤ 12) (hc14 : cn 14 ≤ 6) (j : Nat) (hj : j < cn 5) (n : Nat) (hn : n ≤ 100) (o : UInt64) : Ct l G cy B yX4_warm cX4_warm 11 (some .double) ({ frames := 1, cells := 0, slots := 0, locals := 25 } : Room) ad (MF cy ad cn u w x) [.ref (ad 0), .int (nI j), .int (nI n), .double o] (fun v ad' f' => (if ¬ nI 2 ≤ u 6 j ∧ dGe o 13855605728582041600 = true ∧ dLe o 4633641066610819072 = true then ∃ t sk sp, warmR (x 15) (x 16) (cn 14) o n (x 7 j) (u 9 j) (u 8 j) t sk sp ∧ v = some (.double t) ∧ ad = ad' ∧ MF cy ad cn (va_up (va_up u 9 (upd (u 9) j sk)) 8 (upd (u 8) j sp)) w (va_up x 7 (vf_upd (x 7) j t)) = f' else v = some (.double 13875379345695965184) ∧ ad = ad' ∧ MF cy ad cn u w x = f')) := by
  refine ct_of (by decide +kernel) (Nat.le_of_ble_eq_true rfl) ?_
  intro p e s m args below meth c X hnm
  refine z_lv (lv' := [(0, .ref (ad 0)), (1, .int (nI j)), (2, .int (nI n)), (3, .double o)]) [0, 1, 2, 3] rfl ?_
  refine z_aload_n X 0 dX4_warm_0 rfl rfl ?_
  refine z_iload_n X 1 dX4_warm_1 rfl rfl ?_
  refine z_callV X (n := 1) (As := [.int (nI j)]) (rest := []) 0 rfl rfl rfl (m_isBale l G cy B ad cn u w x (nI j)) q_668 q_669 q_14 q_29 q_670 (by decide +kernel) ⟨Nat.le_of_ble_eq_true rfl, Nat.le_of_ble_eq_true rfl⟩ rfl rfl (Nat.le_of_ble_eq_true rfl) dX4_warm_2 ⟨Nat.le_of_ble_eq_true rfl, Nat.le_of_ble_eq_true rfl⟩ (fun v ad' f' hp had => ?_)
  obtain ⟨rfl, rfl, rfl⟩ := hp
  refine z_st (st' := [.int (nI (if ¬ (nI j) < 0 ∧ ¬ nI (cn 5) ≤ (nI j) then 1 else 0))]) rfl ?_
  refine z_if_eqB X (tgt := 43) dX4_warm_5 (by decide) (fun c5 => by exfalso; exact c5 ⟨nI_pos (by omega), nI_ge (by omega) (by omega)⟩) (fun c5 => ?_)
  refine z_aload_n X 0 dX4_warm_8 rfl rfl ?_
  refine z_get X (v := .ref (ad 6)) 0 6 wa_X4 rfl rfl rfl (by decide) q_565 rfl rfl dX4_warm_9 ?_
  refine z_iload_n X 1 dX4_warm_12 rfl rfl ?_
  refine z_ialdN X (n := 12) (g := u 6) 6 rfl rfl (by omega) (by decide) dX4_warm_13 ?_
  refine z_iconst X (v := nI 2) dX4_warm_14 (by decide) ?_
  refine z_icmp_ge X (tgt := 43) dX4_warm_15 (by decide) (fun c15 => ?_) (fun c15 => ?_)
  · refine z_ldc2d X dX4_warm_43 q_720 ?_
    refine z_dret X (Nat.le_of_ble_eq_true rfl) (Nat.le_of_ble_eq_true rfl) ?_ dX4_warm_46
    rw [if_neg (fun h => h.1 c15)]
    exact ⟨rfl, rfl, rfl⟩
  · refine z_iload_n X 2 dX4_warm_18 rfl rfl ?_
    refine z_i2lN X (by omega) dX4_warm_19 ?_
    refine z_lconst X (v := 0) dX4_warm_20 rfl ?_
    refine z_ldc2 X dX4_warm_21 q_718 ?_
    refine z_callS X (n := 3) (As := [.long (lN n), .long 0, .long 100]) (rest := []) (c_X4_isIn l G cy B ad (MF cy ad cn u w x) ((lN n)) 0 100) q_652 q_653 q_29 q_654 (by decide +kernel) ⟨Nat.le_of_ble_eq_true rfl, Nat.le_of_ble_eq_true rfl⟩ rfl rfl (Nat.le_of_ble_eq_true rfl) dX4_warm_24 ⟨Nat.le_of_ble_eq_true rfl, Nat.le_of_ble_eq_true rfl⟩ (fun v ad' f' hp had => ?_)
    obtain ⟨rfl, rfl, rfl⟩ := hp
    refine z_st (st' := [.int (nI (if 0 ≤ (lN n) ∧ (lN n) ≤ 100 then 1 else 0))]) rfl ?_
    refine z_if_eqB X (tgt := 43) dX4_warm_27 (by decide) (fun c27 => by exfalso; exact c27 ⟨by rw [show (0 : Int64) = lN 0 from rfl]; exact (lN_le (by omega) (by omega)).mpr (by omega), by rw [show (100 : Int64) = lN 100 from rfl]; exact (lN_le (by omega) (by omega)).mpr (by omega)⟩) (fun c27 => ?_)
    refine z_dload_n X 3 dX4_warm_30 rfl rfl ?_
    refine z_ldc2d X dX4_warm_31 q_711 ?_
    refine z_ldc2d X dX4_warm_34 q_719 ?_
    refine z_callS X (n := 3) (As := [.double o, .double 13855605728582041600, .double 4633641066610819072]) (rest := []) (c_X4_isWithin l G cy B ad (MF cy ad cn u w x) o 13855605728582041600 4633641066610819072) q_697 q_698 q_29 q_699 (by decide +kernel) ⟨Nat.le_of_ble_eq_true rfl, Nat.le_of_ble_eq_true rfl⟩ rfl rfl (Nat.le_of_ble_eq_true rfl) dX4_warm_37 ⟨Nat.le_of_ble_eq_true rfl, Nat.le_of_ble_eq_true rfl⟩ (fun v ad' f' hp had => ?_)
    obtain ⟨rfl, rfl, rfl⟩ := hp
    refine z_st (st' := [.int (nI (if dGe o 13855605728582041600 = true ∧ dLe o 4633641066610819072 = true then 1 else 0))]) rfl ?_
    refine z_if_neB X (tgt := 47) dX4_warm_40 (by decide) (fun c40 => ?_) (fun c40 => ?_)
    · refine z_iconst X (v := nI 0) dX4_warm_47 (by decide) ?_
      refine z_istore X (lv' := [(5, .int (nI 0)), (0, .ref (ad 0)), (1, .int (nI j)), (2, .int (nI n)), (3, .double o)]) dX4_warm_48 (by decide) rfl ?_
      refine z_lv (lv' := [(0, .ref (ad 0)), (1, .int (nI j)), (2, .int (nI n)), (3, .double o), (5, .int (nI 0))]) [1, 2, 3, 4, 0] rfl ?_
      have lp50 : ∀ (fu50 : Nat) (i : Nat) (t : UInt64) (sk sp : Int32), (i ≤ n) → (warmR (x 15) (x 16) (cn 14) o i (x 7 j) (u 9 j) (u 8 j) t sk sp) → n + 1 ≤ i + fu50 → Z G B 11 ad (MF cy ad cn u w x) p l e ({ frames := 1, cells := 0, slots := 0, locals := 25 } : Room) s m args below meth c (zEnd G B ad (MF cy ad cn u w x) below args s ({ frames := 1, cells := 0, slots := 0, locals := 25 } : Room) (fun v ad' f' => (if ¬ nI 2 ≤ u 6 j ∧ dGe o 13855605728582041600 = true ∧ dLe o 4633641066610819072 = true then ∃ t sk sp, warmR (x 15) (x 16) (cn 14) o n (x 7 j) (u 9 j) (u 8 j) t sk sp ∧ v = some (.double t) ∧ ad = ad' ∧ MF cy ad cn (va_up (va_up u 9 (upd (u 9) j sk)) 8 (upd (u 8) j sp)) w (va_up x 7 (vf_upd (x 7) j t)) = f' else v = some (.double 13875379345695965184) ∧ ad = ad' ∧ MF cy ad cn u w x = f'))) ad (MF cy ad cn (va_up (va_up u 9 (upd (u 9) j sk)) 8 (upd (u 8) j sp)) w (va_up x 7 (vf_upd (x 7) j t))) 0 0 50 [(0, .ref (ad 0)), (1, .int (nI j)), (2, .int (nI n)), (3, .double o), (5, .int (nI i))] [] := by
        intro fu50
        induction fu50 with
        | zero => intro i t sk sp hi hw hm50; exact absurd hm50 (by omega)
        | succ fu50 ih50 =>
          intro i t sk sp hi hw hm50
          refine z_iload X 4 dX4_warm_50 rfl ?_
          refine z_iload_n X 2 dX4_warm_52 rfl rfl ?_
          refine z_icmp_geN X (tgt := 205) (by omega) (by omega) dX4_warm_53 (by decide) (fun c53 => ?_) (fun c53 => ?_)
          · have e9 : i = n := by omega
            rw [e9] at hw
            refine z_aload_n X 0 dX4_warm_205 rfl rfl ?_
            refine z_get X (v := .ref (ad 7)) 0 7 wa_X4 rfl rfl rfl (by decide) q_566 rfl rfl dX4_warm_206 ?_
            refine z_iload_n X 1 dX4_warm_209 rfl rfl ?_
            refine z_daldN X (n := 12) (g := vf_upd (x 7) j t) 7 rfl rfl (by omega) (by decide) dX4_warm_210 ?_
            refine z_top (v' := .double t) (by simp [upd, vf_upd, vp_updL]) ?_
            refine z_dret X (Nat.le_of_ble_eq_true rfl) (Nat.le_of_ble_eq_true rfl) ?_ dX4_warm_211
            rw [if_pos ⟨Int32.not_le.mpr (Int32.not_le.mp c15), c40⟩]
            exact ⟨t, sk, sp, hw, rfl, rfl, rfl⟩
          · refine z_aload_n X 0 dX4_warm_56 rfl rfl ?_
            refine z_get X (v := .ref (ad 7)) 0 7 wa_X4 rfl rfl rfl (by decide) q_566 rfl rfl dX4_warm_57 ?_
            refine z_iload_n X 1 dX4_warm_60 rfl rfl ?_
            refine z_daldN X (n := 12) (g := vf_upd (x 7) j t) 7 rfl rfl (by omega) (by decide) dX4_warm_61 ?_
            refine z_top (v' := .double t) (by simp [upd, vf_upd, vp_updL]) ?_
            refine z_dstore X (lv' := [(6, .double t), (0, .ref (ad 0)), (1, .int (nI j)), (2, .int (nI n)), (3, .double o), (5, .int (nI i))]) dX4_warm_62 (by decide) rfl ?_
            refine z_dconst0 X dX4_warm_64 ?_
            refine z_dstore X (lv' := [(8, .double 0), (6, .double t), (0, .ref (ad 0)), (1, .int (nI j)), (2, .int (nI n)), (3, .double o), (5, .int (nI i))]) dX4_warm_65 (by decide) rfl ?_
            refine z_iconst X (v := nI 0) dX4_warm_67 (by decide) ?_
            refine z_istore X (lv' := [(10, .int (nI 0)), (8, .double 0), (6, .double t), (0, .ref (ad 0)), (1, .int (nI j)), (2, .int (nI n)), (3, .double o), (5, .int (nI i))]) dX4_warm_68 (by decide) rfl ?_
            refine z_lv (lv' := [(0, .ref (ad 0)), (1, .int (nI j)), (2, .int (nI n)), (3, .double o), (5, .int (nI i)), (6, .double t), (8, .double 0), (10, .int (nI 0))]) [3, 4, 5, 6, 7, 2, 1, 0] rfl ?_
            have lp70 : ∀ (fu70 : Nat) (i2 : Nat) (gv : UInt64), (i2 ≤ cn 14) → (gv = gainL (x 15) (x 16) t i2) → cn 14 + 1 ≤ i2 + fu70 → Z G B 11 ad (MF cy ad cn u w x) p l e ({ frames := 1, cells := 0, slots := 0, locals := 25 } : Room) s m args below meth c (zEnd G B ad (MF cy ad cn u w x) below args s ({ frames := 1, cells := 0, slots := 0, locals := 25 } : Room) (fun v ad' f' => (if ¬ nI 2 ≤ u 6 j ∧ dGe o 13855605728582041600 = true ∧ dLe o 4633641066610819072 = true then ∃ t sk sp, warmR (x 15) (x 16) (cn 14) o n (x 7 j) (u 9 j) (u 8 j) t sk sp ∧ v = some (.double t) ∧ ad = ad' ∧ MF cy ad cn (va_up (va_up u 9 (upd (u 9) j sk)) 8 (upd (u 8) j sp)) w (va_up x 7 (vf_upd (x 7) j t)) = f' else v = some (.double 13875379345695965184) ∧ ad = ad' ∧ MF cy ad cn u w x = f'))) ad (MF cy ad cn (va_up (va_up u 9 (upd (u 9) j sk)) 8 (upd (u 8) j sp)) w (va_up x 7 (vf_upd (x 7) j t))) 0 0 70 [(0, .ref (ad 0)), (1, .int (nI j)), (2, .int (nI n)), (3, .double o), (5, .int (nI i)), (6, .double t), (8, .double gv), (10, .int (nI i2))] [] := by
              intro fu70
              induction fu70 with
              | zero => intro i2 gv hi2 hg hm70; exact absurd hm70 (by omega)
              | succ fu70 ih70 =>
                intro i2 gv hi2 hg hm70
                refine z_iload X 7 dX4_warm_70 rfl ?_
                refine z_aload_n X 0 dX4_warm_72 rfl rfl ?_
                refine z_get X (v := .int (nI (cn 14))) 0 14 wa_X4 rfl rfl rfl (by decide) q_573 rfl rfl dX4_warm_73 ?_
                refine z_icmp_geN X (tgt := 112) (by omega) (by omega) dX4_warm_76 (by decide) (fun c76 => ?_) (fun c76 => ?_)
                · have e8 : i2 = cn 14 := by omega
                  rw [e8] at hg
                  refine z_aload_n X 0 dX4_warm_112 rfl rfl ?_
                  refine z_get X (v := .ref (ad 7)) 0 7 wa_X4 rfl rfl rfl (by decide) q_566 rfl rfl dX4_warm_113 ?_
                  refine z_iload_n X 1 dX4_warm_116 rfl rfl ?_
                  refine z_dload X 5 dX4_warm_117 rfl ?_
                  refine z_dload X 6 dX4_warm_119 rfl ?_
                  refine z_dadd X dX4_warm_121 (fun r121 hr121 => ?_)
                  refine z_dload X 5 dX4_warm_122 rfl ?_
                  refine z_dload_n X 3 dX4_warm_124 rfl rfl ?_
                  refine z_dsub X dX4_warm_125 (fun r125 hr125 => ?_)
                  refine z_ldc2d X dX4_warm_126 q_702 ?_
                  refine z_dmul X dX4_warm_129 (fun r129 hr129 => ?_)
                  refine z_dsub X dX4_warm_130 (fun r130 hr130 => ?_)
                  refine z_dastN X (n := 12) (g := vf_upd (x 7) j t) 7 rfl rfl (by omega) (by decide) dX4_warm_131 ?_
                  refine z_f (MF_x 7 12 rfl (by decide) _) ?_
                  refine z_f (congrArg (fun z => MF cy ad cn (va_up (va_up u 9 (upd (u 9) j sk)) 8 (upd (u 8) j sp)) w z) (show va_up (va_up x 7 (vf_upd (x 7) j t)) 7 (vf_upd (vf_upd (x 7) j t) j r130) = va_up x 7 (vf_upd (x 7) j r130) from by (try simp only [upd_uu, vfu_uu, vpu_uu]); funext z9; simp only [va_up]; (repeat' split) <;> first | rfl | omega | simp_all)) ?_
                  refine z_aload_n X 0 dX4_warm_132 rfl rfl ?_
                  refine z_get X (v := .ref (ad 9)) 0 9 wa_X4 rfl rfl rfl (by decide) q_568 rfl rfl dX4_warm_133 ?_
                  refine z_iload_n X 1 dX4_warm_136 rfl rfl ?_
                  refine z_aload_n X 0 dX4_warm_137 rfl rfl ?_
                  refine z_get X (v := .ref (ad 7)) 0 7 wa_X4 rfl rfl rfl (by decide) q_566 rfl rfl dX4_warm_138 ?_
                  refine z_iload_n X 1 dX4_warm_141 rfl rfl ?_
                  refine z_daldN X (n := 12) (g := vf_upd (x 7) j r130) 7 rfl rfl (by omega) (by decide) dX4_warm_142 ?_
                  refine z_top (v' := .double r130) (by simp [upd, vf_upd, vp_updL]) ?_
                  refine z_ldc2d X dX4_warm_143 q_719 ?_
                  refine z_dcmp_lt X (tgt := 161) dX4_warm_146 dX4_warm_147 (by decide) (fun c146 => ?_) (fun c146 => ?_)
                  · refine z_iconst X (v := nI 0) dX4_warm_161 (by decide) ?_
                    refine z_iastN X (n := 12) (g := upd (u 9) j sk) 9 rfl rfl (by omega) (by decide) dX4_warm_162 ?_
                    refine z_f (MF_u 9 12 rfl (by decide) _) ?_
                    refine z_f (congrArg (fun z => MF cy ad cn z w (va_up x 7 (vf_upd (x 7) j r130))) (show va_up (va_up (va_up u 9 (upd (u 9) j sk)) 8 (upd (u 8) j sp)) 9 (upd (upd (u 9) j sk) j (nI 0)) = va_up (va_up u 9 (upd (u 9) j (nI 0))) 8 (upd (u 8) j sp) from by (try simp only [upd_uu, vfu_uu, vpu_uu]); funext z9; simp only [va_up]; (repeat' split) <;> first | rfl | omega | simp_all)) ?_
                    refine z_aload_n X 0 dX4_warm_163 rfl rfl ?_
                    refine z_get X (v := .ref (ad 8)) 0 8 wa_X4 rfl rfl rfl (by decide) q_567 rfl rfl dX4_warm_164 ?_
                    refine z_iload_n X 1 dX4_warm_167 rfl rfl ?_
                    refine z_aload_n X 0 dX4_warm_168 rfl rfl ?_
                    refine z_get X (v := .ref (ad 9)) 0 9 wa_X4 rfl rfl rfl (by decide) q_568 rfl rfl dX4_warm_169 ?_
                    refine z_iload_n X 1 dX4_warm_172 rfl rfl ?_
                    refine z_ialdN X (n := 12) (g := upd (u 9) j (nI 0)) 9 rfl rfl (by omega) (by decide) dX4_warm_173 ?_
                    refine z_top (v' := .int (nI 0)) (by simp [upd, vf_upd, vp_updL]) ?_
                    refine z_aload_n X 0 dX4_warm_174 rfl rfl ?_
                    refine z_get X (v := .ref (ad 8)) 0 8 wa_X4 rfl rfl rfl (by decide) q_567 rfl rfl dX4_warm_175 ?_
                    refine z_iload_n X 1 dX4_warm_178 rfl rfl ?_
                    refine z_ialdN X (n := 12) (g := upd (u 8) j sp) 8 rfl rfl (by omega) (by decide) dX4_warm_179 ?_
                    refine z_top (v' := .int sp) (by simp [upd, vf_upd, vp_updL]) ?_
                    refine z_icmp_le X (tgt := 192) dX4_warm_180 (by decide) (fun c180 => ?_) (fun c180 => ?_)
                    · refine z_aload_n X 0 dX4_warm_192 rfl rfl ?_
                      refine z_get X (v := .ref (ad 8)) 0 8 wa_X4 rfl rfl rfl (by decide) q_567 rfl rfl dX4_warm_193 ?_
                      refine z_iload_n X 1 dX4_warm_196 rfl rfl ?_
                      refine z_ialdN X (n := 12) (g := upd (u 8) j sp) 8 rfl rfl (by omega) (by decide) dX4_warm_197 ?_
                      refine z_top (v' := .int sp) (by simp [upd, vf_upd, vp_updL]) ?_
                      refine z_iastN X (n := 12) (g := upd (u 8) j sp) 8 rfl rfl (by omega) (by decide) dX4_warm_198 ?_
                      refine z_f (MF_u 8 12 rfl (by decide) _) ?_
                      refine z_f (congrArg (fun z => MF cy ad cn z w (va_up x 7 (vf_upd (x 7) j r130))) (show va_up (va_up (va_up u 9 (upd (u 9) j (nI 0))) 8 (upd (u 8) j sp)) 8 (upd (upd (u 8) j sp) j sp) = va_up (va_up u 9 (upd (u 9) j (nI 0))) 8 (upd (u 8) j sp) from by (try simp only [upd_uu, vfu_uu, vpu_uu]); funext z9; simp only [va_up]; (repeat' split) <;> first | rfl | omega | simp_all)) ?_
                      refine z_iincN X 4 (k := 1) (lv' := [(5, .int (nI (i + 1))), (0, .ref (ad 0)), (1, .int (nI j)), (2, .int (nI n)), (3, .double o), (6, .double t), (8, .double gv), (10, .int (nI i2))]) dX4_warm_199 rfl (by decide) (by decide) rfl ?_
                      refine z_goto X (tgt := 50) dX4_warm_202 (by decide) ?_
                      refine z_lv (lv' := [(0, .ref (ad 0)), (1, .int (nI j)), (2, .int (nI n)), (3, .double o), (5, .int (nI (i + 1)))]) [1, 2, 3, 4, 0] rfl ?_
                      exact ih50 (i + 1) r130 (nI 0) sp (by omega) (by exact ⟨t, sk, sp, hw, ⟨r121, r125, r129, by rw [← show gv = gainL (x 15) (x 16) t (cn 14) from by rw [hg]]; exact hr121, hr125, hr129, hr130⟩, (if_neg (by rw [c146]; exact Bool.false_ne_true)).symm, (if_neg (Int32.not_lt.mpr c180)).symm⟩) (by omega)
                    · refine z_aload_n X 0 dX4_warm_183 rfl rfl ?_
                      refine z_get X (v := .ref (ad 9)) 0 9 wa_X4 rfl rfl rfl (by decide) q_568 rfl rfl dX4_warm_184 ?_
                      refine z_iload_n X 1 dX4_warm_187 rfl rfl ?_
                      refine z_ialdN X (n := 12) (g := upd (u 9) j (nI 0)) 9 rfl rfl (by omega) (by decide) dX4_warm_188 ?_
                      refine z_top (v' := .int (nI 0)) (by simp [upd, vf_upd, vp_updL]) ?_
                      refine z_goto X (tgt := 198) dX4_warm_189 (by decide) ?_
                      refine z_iastN X (n := 12) (g := upd (u 8) j sp) 8 rfl rfl (by omega) (by decide) dX4_warm_198 ?_
                      refine z_f (MF_u 8 12 rfl (by decide) _) ?_
                      refine z_f (congrArg (fun z => MF cy ad cn z w (va_up x 7 (vf_upd (x 7) j r130))) (show va_up (va_up (va_up u 9 (upd (u 9) j (nI 0))) 8 (upd (u 8) j sp)) 8 (upd (upd (u 8) j sp) j (nI 0)) = va_up (va_up u 9 (upd (u 9) j (nI 0))) 8 (upd (u 8) j (nI 0)) from by (try simp only [upd_uu, vfu_uu, vpu_uu]); funext z9; simp only [va_up]; (repeat' split) <;> first | rfl | omega | simp_all)) ?_
                      refine z_iincN X 4 (k := 1) (lv' := [(5, .int (nI (i + 1))), (0, .ref (ad 0)), (1, .int (nI j)), (2, .int (nI n)), (3, .double o), (6, .double t), (8, .double gv), (10, .int (nI i2))]) dX4_warm_199 rfl (by decide) (by decide) rfl ?_
                      refine z_goto X (tgt := 50) dX4_warm_202 (by decide) ?_
                      refine z_lv (lv' := [(0, .ref (ad 0)), (1, .int (nI j)), (2, .int (nI n)), (3, .double o), (5, .int (nI (i + 1)))]) [1, 2, 3, 4, 0] rfl ?_
                      exact ih50 (i + 1) r130 (nI 0) (nI 0) (by omega) (by exact ⟨t, sk, sp, hw, ⟨r121, r125, r129, by rw [← show gv = gainL (x 15) (x 16) t (cn 14) from by rw [hg]]; exact hr121, hr125, hr129, hr130⟩, (if_neg (by rw [c146]; exact Bool.false_ne_true)).symm, (if_pos (Int32.not_le.mp c180)).symm⟩) (by omega)
                  · refine z_aload_n X 0 dX4_warm_150 rfl rfl ?_
                    refine z_get X (v := .ref (ad 9)) 0 9 wa_X4 rfl rfl rfl (by decide) q_568 rfl rfl dX4_warm_151 ?_
                    refine z_iload_n X 1 dX4_warm_154 rfl rfl ?_
                    refine z_ialdN X (n := 12) (g := upd (u 9) j sk) 9 rfl rfl (by omega) (by decide) dX4_warm_155 ?_
                    refine z_top (v' := .int sk) (by simp [upd, vf_upd, vp_updL]) ?_
                    refine z_iconst X (v := nI 1) dX4_warm_156 (by decide) ?_
                    refine z_iadd X dX4_warm_157 ?_
                    refine z_goto X (tgt := 162) dX4_warm_158 (by decide) ?_
                    refine z_iastN X (n := 12) (g := upd (u 9) j sk) 9 rfl rfl (by omega) (by decide) dX4_warm_162 ?_
                    refine z_f (MF_u 9 12 rfl (by decide) _) ?_
                    refine z_f (congrArg (fun z => MF cy ad cn z w (va_up x 7 (vf_upd (x 7) j r130))) (show va_up (va_up (va_up u 9 (upd (u 9) j sk)) 8 (upd (u 8) j sp)) 9 (upd (upd (u 9) j sk) j (sk + (nI 1))) = va_up (va_up u 9 (upd (u 9) j (sk + (nI 1)))) 8 (upd (u 8) j sp) from by (try simp only [upd_uu, vfu_uu, vpu_uu]); funext z9; simp only [va_up]; (repeat' split) <;> first | rfl | omega | simp_all)) ?_
                    refine z_aload_n X 0 dX4_warm_163 rfl rfl ?_
                    refine z_get X (v := .ref (ad 8)) 0 8 wa_X4 rfl rfl rfl (by decide) q_567 rfl rfl dX4_warm_164 ?_
                    refine z_iload_n X 1 dX4_warm_167 rfl rfl ?_
                    refine z_aload_n X 0 dX4_warm_168 rfl rfl ?_
                    refine z_get X (v := .ref (ad 9)) 0 9 wa_X4 rfl rfl rfl (by decide) q_568 rfl rfl dX4_warm_169 ?_
                    refine z_iload_n X 1 dX4_warm_172 rfl rfl ?_
                    refine z_ialdN X (n := 12) (g := upd (u 9) j (sk + (nI 1))) 9 rfl rfl (by omega) (by decide) dX4_warm_173 ?_
                    refine z_top (v' := .int (sk + (nI 1))) (by simp [upd, vf_upd, vp_updL]) ?_
                    refine z_aload_n X 0 dX4_warm_174 rfl rfl ?_
                    refine z_get X (v := .ref (ad 8)) 0 8 wa_X4 rfl rfl rfl (by decide) q_567 rfl rfl dX4_warm_175 ?_
                    refine z_iload_n X 1 dX4_warm_178 rfl rfl ?_
                    refine z_ialdN X (n := 12) (g := upd (u 8) j sp) 8 rfl rfl (by omega) (by decide) dX4_warm_179 ?_
                    refine z_top (v' := .int sp) (by simp [upd, vf_upd, vp_updL]) ?_
                    refine z_icmp_le X (tgt := 192) dX4_warm_180 (by decide) (fun c180 => ?_) (fun c180 => ?_)
                    · refine z_aload_n X 0 dX4_warm_192 rfl rfl ?_
                      refine z_get X (v := .ref (ad 8)) 0 8 wa_X4 rfl rfl rfl (by decide) q_567 rfl rfl dX4_warm_193 ?_
                      refine z_iload_n X 1 dX4_warm_196 rfl rfl ?_
                      refine z_ialdN X (n := 12) (g := upd (u 8) j sp) 8 rfl rfl (by omega) (by decide) dX4_warm_197 ?_
                      refine z_top (v' := .int sp) (by simp [upd, vf_upd, vp_updL]) ?_
                      refine z_iastN X (n := 12) (g := upd (u 8) j sp) 8 rfl rfl (by omega) (by decide) dX4_warm_198 ?_
                      refine z_f (MF_u 8 12 rfl (by decide) _) ?_
                      refine z_f (congrArg (fun z => MF cy ad cn z w (va_up x 7 (vf_upd (x 7) j r130))) (show va_up (va_up (va_up u 9 (upd (u 9) j (sk + (nI 1)))) 8 (upd (u 8) j sp)) 8 (upd (upd (u 8) j sp) j sp) = va_up (va_up u 9 (upd (u 9) j (sk + (nI 1)))) 8 (upd (u 8) j sp) from by (try simp only [upd_uu, vfu_uu, vpu_uu]); funext z9; simp only [va_up]; (repeat' split) <;> first | rfl | omega | simp_all)) ?_
                      refine z_iincN X 4 (k := 1) (lv' := [(5, .int (nI (i + 1))), (0, .ref (ad 0)), (1, .int (nI j)), (2, .int (nI n)), (3, .double o), (6, .double t), (8, .double gv), (10, .int (nI i2))]) dX4_warm_199 rfl (by decide) (by decide) rfl ?_
                      refine z_goto X (tgt := 50) dX4_warm_202 (by decide) ?_
                      refine z_lv (lv' := [(0, .ref (ad 0)), (1, .int (nI j)), (2, .int (nI n)), (3, .double o), (5, .int (nI (i + 1)))]) [1, 2, 3, 4, 0] rfl ?_
                      exact ih50 (i + 1) r130 (sk + (nI 1)) sp (by omega) (by exact ⟨t, sk, sp, hw, ⟨r121, r125, r129, by rw [← show gv = gainL (x 15) (x 16) t (cn 14) from by rw [hg]]; exact hr121, hr125, hr129, hr130⟩, (if_pos c146).symm, (if_neg (Int32.not_lt.mpr c180)).symm⟩) (by omega)
                    · refine z_aload_n X 0 dX4_warm_183 rfl rfl ?_
                      refine z_get X (v := .ref (ad 9)) 0 9 wa_X4 rfl rfl rfl (by decide) q_568 rfl rfl dX4_warm_184 ?_
                      refine z_iload_n X 1 dX4_warm_187 rfl rfl ?_
                      refine z_ialdN X (n := 12) (g := upd (u 9) j (sk + (nI 1))) 9 rfl rfl (by omega) (by decide) dX4_warm_188 ?_
                      refine z_top (v' := .int (sk + (nI 1))) (by simp [upd, vf_upd, vp_updL]) ?_
                      refine z_goto X (tgt := 198) dX4_warm_189 (by decide) ?_
                      refine z_iastN X (n := 12) (g := upd (u 8) j sp) 8 rfl rfl (by omega) (by decide) dX4_warm_198 ?_
                      refine z_f (MF_u 8 12 rfl (by decide) _) ?_
                      refine z_f (congrArg (fun z => MF cy ad cn z w (va_up x 7 (vf_upd (x 7) j r130))) (show va_up (va_up (va_up u 9 (upd (u 9) j (sk + (nI 1)))) 8 (upd (u 8) j sp)) 8 (upd (upd (u 8) j sp) j (sk + (nI 1))) = va_up (va_up u 9 (upd (u 9) j (sk + (nI 1)))) 8 (upd (u 8) j (sk + (nI 1))) from by (try simp only [upd_uu, vfu_uu, vpu_uu]); funext z9; simp only [va_up]; (repeat' split) <;> first | rfl | omega | simp_all)) ?_
                      refine z_iincN X 4 (k := 1) (lv' := [(5, .int (nI (i + 1))), (0, .ref (ad 0)), (1, .int (nI j)), (2, .int (nI n)), (3, .double o), (6, .double t), (8, .double gv), (10, .int (nI i2))]) dX4_warm_199 rfl (by decide) (by decide) rfl ?_
                      refine z_goto X (tgt := 50) dX4_warm_202 (by decide) ?_
                      refine z_lv (lv' := [(0, .ref (ad 0)), (1, .int (nI j)), (2, .int (nI n)), (3, .double o), (5, .int (nI (i + 1)))]) [1, 2, 3, 4, 0] rfl ?_
                      exact ih50 (i + 1) r130 (sk + (nI 1)) (sk + (nI 1)) (by omega) (by exact ⟨t, sk, sp, hw, ⟨r121, r125, r129, by rw [← show gv = gainL (x 15) (x 16) t (cn 14) from by rw [hg]]; exact hr121, hr125, hr129, hr130⟩, (if_pos c146).symm, (if_pos (Int32.not_le.mp c180)).symm⟩) (by omega)
                · refine z_aload_n X 0 dX4_warm_79 rfl rfl ?_
                  refine z_get X (v := .ref (ad 15)) 0 15 wa_X4 rfl rfl rfl (by decide) q_574 rfl rfl dX4_warm_80 ?_
                  refine z_iload X 7 dX4_warm_83 rfl ?_
                  refine z_daldN X (n := 6) (g := x 15) 15 rfl rfl (by omega) (by decide) dX4_warm_85 ?_
                  refine z_dload X 5 dX4_warm_86 rfl ?_
                  refine z_dcmp_gt X (tgt := 102) dX4_warm_88 dX4_warm_89 (by decide) (fun c88 => ?_) (fun c88 => ?_)
                  · refine z_dload X 6 dX4_warm_102 rfl ?_
                    refine z_dstore X (lv' := [(8, .double gv), (0, .ref (ad 0)), (1, .int (nI j)), (2, .int (nI n)), (3, .double o), (5, .int (nI i)), (6, .double t), (10, .int (nI i2))]) dX4_warm_104 (by decide) rfl ?_
                    refine z_iincN X 7 (k := 1) (lv' := [(10, .int (nI (i2 + 1))), (8, .double gv), (0, .ref (ad 0)), (1, .int (nI j)), (2, .int (nI n)), (3, .double o), (5, .int (nI i)), (6, .double t)]) dX4_warm_106 rfl (by decide) (by decide) rfl ?_
                    refine z_goto X (tgt := 70) dX4_warm_109 (by decide) ?_
                    refine z_lv (lv' := [(0, .ref (ad 0)), (1, .int (nI j)), (2, .int (nI n)), (3, .double o), (5, .int (nI i)), (6, .double t), (8, .double gv), (10, .int (nI (i2 + 1)))]) [2, 3, 4, 5, 6, 7, 1, 0] rfl ?_
                    exact ih70 (i2 + 1) gv (by omega) (by rw [hg]; exact (if_neg (by rw [c88]; exact Bool.false_ne_true)).symm) (by omega)
                  · refine z_aload_n X 0 dX4_warm_92 rfl rfl ?_
                    refine z_get X (v := .ref (ad 16)) 0 16 wa_X4 rfl rfl rfl (by decide) q_575 rfl rfl dX4_warm_93 ?_
                    refine z_iload X 7 dX4_warm_96 rfl ?_
                    refine z_daldN X (n := 6) (g := x 16) 16 rfl rfl (by omega) (by decide) dX4_warm_98 ?_
                    refine z_goto X (tgt := 104) dX4_warm_99 (by decide) ?_
                    refine z_dstore X (lv' := [(8, .double ((x 16) i2)), (0, .ref (ad 0)), (1, .int (nI j)), (2, .int (nI n)), (3, .double o), (5, .int (nI i)), (6, .double t), (10, .int (nI i2))]) dX4_warm_104 (by decide) rfl ?_
                    refine z_iincN X 7 (k := 1) (lv' := [(10, .int (nI (i2 + 1))), (8, .double ((x 16) i2)), (0, .ref (ad 0)), (1, .int (nI j)), (2, .int (nI n)), (3, .double o), (5, .int (nI i)), (6, .double t)]) dX4_warm_106 rfl (by decide) (by decide) rfl ?_
                    refine z_goto X (tgt := 70) dX4_warm_109 (by decide) ?_
                    refine z_lv (lv' := [(0, .ref (ad 0)), (1, .int (nI j)), (2, .int (nI n)), (3, .double o), (5, .int (nI i)), (6, .double t), (8, .double ((x 16) i2)), (10, .int (nI (i2 + 1)))]) [2, 3, 4, 5, 6, 7, 1, 0] rfl ?_
                    exact ih70 (i2 + 1) ((x 16) i2) (by omega) (by exact (if_pos c88).symm) (by omega)
            exact lp70 (cn 14 + 1) 0 0 (by omega) (by rfl) (by omega)
      refine z_f (show MF cy ad cn u w x = MF cy ad cn (va_up (va_up u 9 (upd (u 9) j (u 9 j))) 8 (upd (u 8) j (u 8 j))) w (va_up x 7 (vf_upd (x 7) j (x 7 j))) from by rw [upd_self, upd_self, vfu_self, up_self, up_self, up_self]) ?_
      exact lp50 (n + 1) 0 (x 7 j) (u 9 j) (u 8 j) (by omega) ⟨rfl, rfl, rfl⟩ (by omega)
    · refine z_ldc2d X dX4_warm_43 q_720 ?_
      refine z_dret X (Nat.le_of_ble_eq_true rfl) (Nat.le_of_ble_eq_true rfl) ?_ dX4_warm_46
      rw [if_neg (fun h => c40 h.2)]
      exact ⟨rfl, rfl, rfl⟩
set_option maxHeartbeats 4000000 in
set_option maxRecDepth 100000 in
theorem m_warm_x (l : Launch) (G : va_G) (cy : Nat → ClassId) (B : Nat) (ad : Nat → Nat) (cn : Nat → Nat) (u : Nat → Nat → Int32) (w : Nat → Nat → Int64) (x : Nat → Nat → UInt64) (hc5 : cn 5 ≤ 12) (j : Nat) (hj : j < cn 5) (h : Int32) (hh : ¬ (0 ≤ h.toInt64 ∧ h.toInt64 ≤ 100)) (o : UInt64) : Ct l G cy B yX4_warm cX4_warm 11 (some .double) ({ frames := 1, cells := 0, slots := 0, locals := 25 } : Room) ad (MF cy ad cn u w x) [.ref (ad 0), .int (nI j), .int h, .double o] (fun v ad' f' => v = some (.double 13875379345695965184) ∧ ad = ad' ∧ MF cy ad cn u w x = f') := by
  refine ct_of (by decide +kernel) (Nat.le_of_ble_eq_true rfl) ?_
  intro p e s m args below meth c X hnm
  refine z_lv (lv' := [(0, .ref (ad 0)), (1, .int (nI j)), (2, .int h), (3, .double o)]) [0, 1, 2, 3] rfl ?_
  refine z_aload_n X 0 dX4_warm_0 rfl rfl ?_
  refine z_iload_n X 1 dX4_warm_1 rfl rfl ?_
  refine z_callV X (n := 1) (As := [.int (nI j)]) (rest := []) 0 rfl rfl rfl (m_isBale l G cy B ad cn u w x (nI j)) q_668 q_669 q_14 q_29 q_670 (by decide +kernel) ⟨Nat.le_of_ble_eq_true rfl, Nat.le_of_ble_eq_true rfl⟩ rfl rfl (Nat.le_of_ble_eq_true rfl) dX4_warm_2 ⟨Nat.le_of_ble_eq_true rfl, Nat.le_of_ble_eq_true rfl⟩ (fun v ad' f' hp had => ?_)
  obtain ⟨rfl, rfl, rfl⟩ := hp
  refine z_st (st' := [.int (nI (if ¬ (nI j) < 0 ∧ ¬ nI (cn 5) ≤ (nI j) then 1 else 0))]) rfl ?_
  refine z_if_eqB X (tgt := 43) dX4_warm_5 (by decide) (fun c5 => by exfalso; exact c5 ⟨nI_pos (by omega), nI_ge (by omega) (by omega)⟩) (fun c5 => ?_)
  refine z_aload_n X 0 dX4_warm_8 rfl rfl ?_
  refine z_get X (v := .ref (ad 6)) 0 6 wa_X4 rfl rfl rfl (by decide) q_565 rfl rfl dX4_warm_9 ?_
  refine z_iload_n X 1 dX4_warm_12 rfl rfl ?_
  refine z_ialdN X (n := 12) (g := u 6) 6 rfl rfl (by omega) (by decide) dX4_warm_13 ?_
  refine z_iconst X (v := nI 2) dX4_warm_14 (by decide) ?_
  refine z_icmp_ge X (tgt := 43) dX4_warm_15 (by decide) (fun c15 => ?_) (fun c15 => ?_)
  · refine z_ldc2d X dX4_warm_43 q_720 ?_
    refine z_dret X (Nat.le_of_ble_eq_true rfl) (Nat.le_of_ble_eq_true rfl) ?_ dX4_warm_46
    exact ⟨rfl, rfl, rfl⟩
  · refine z_iload_n X 2 dX4_warm_18 rfl rfl ?_
    refine z_i2l X dX4_warm_19 ?_
    refine z_lconst X (v := 0) dX4_warm_20 rfl ?_
    refine z_ldc2 X dX4_warm_21 q_718 ?_
    refine z_callS X (n := 3) (As := [.long h.toInt64, .long 0, .long 100]) (rest := []) (c_X4_isIn l G cy B ad (MF cy ad cn u w x) h.toInt64 0 100) q_652 q_653 q_29 q_654 (by decide +kernel) ⟨Nat.le_of_ble_eq_true rfl, Nat.le_of_ble_eq_true rfl⟩ rfl rfl (Nat.le_of_ble_eq_true rfl) dX4_warm_24 ⟨Nat.le_of_ble_eq_true rfl, Nat.le_of_ble_eq_true rfl⟩ (fun v ad' f' hp had => ?_)
    obtain ⟨rfl, rfl, rfl⟩ := hp
    refine z_st (st' := [.int (nI (if 0 ≤ h.toInt64 ∧ h.toInt64 ≤ 100 then 1 else 0))]) rfl ?_
    refine z_if_eqB X (tgt := 43) dX4_warm_27 (by decide) (fun c27 => ?_) (fun c27 => by exfalso; exact hh c27)
    refine z_ldc2d X dX4_warm_43 q_720 ?_
    refine z_dret X (Nat.le_of_ble_eq_true rfl) (Nat.le_of_ble_eq_true rfl) ?_ dX4_warm_46
    exact ⟨rfl, rfl, rfl⟩
set_option maxHeartbeats 4000000 in
set_option maxRecDepth 100000 in
theorem m_warm_o (l : Launch) (G : va_G) (cy : Nat → ClassId) (B : Nat) (ad : Nat → Nat) (cn : Nat → Nat) (u : Nat → Nat → Int32) (w : Nat → Nat → Int64) (x : Nat → Nat → UInt64) (b : Int32) (hb : ¬ (¬ b < 0 ∧ ¬ nI (cn 5) ≤ b)) (h : Int32) (o : UInt64) : Ct l G cy B yX4_warm cX4_warm 11 (some .double) ({ frames := 1, cells := 0, slots := 0, locals := 21 } : Room) ad (MF cy ad cn u w x) [.ref (ad 0), .int b, .int h, .double o] (fun v ad' f' => v = some (.double 13875379345695965184) ∧ ad = ad' ∧ MF cy ad cn u w x = f') := by
  refine ct_of (by decide +kernel) (Nat.le_of_ble_eq_true rfl) ?_
  intro p e s m args below meth c X hnm
  refine z_lv (lv' := [(0, .ref (ad 0)), (1, .int b), (2, .int h), (3, .double o)]) [0, 1, 2, 3] rfl ?_
  refine z_aload_n X 0 dX4_warm_0 rfl rfl ?_
  refine z_iload_n X 1 dX4_warm_1 rfl rfl ?_
  refine z_callV X (n := 1) (As := [.int b]) (rest := []) 0 rfl rfl rfl (m_isBale l G cy B ad cn u w x b) q_668 q_669 q_14 q_29 q_670 (by decide +kernel) ⟨Nat.le_of_ble_eq_true rfl, Nat.le_of_ble_eq_true rfl⟩ rfl rfl (Nat.le_of_ble_eq_true rfl) dX4_warm_2 ⟨Nat.le_of_ble_eq_true rfl, Nat.le_of_ble_eq_true rfl⟩ (fun v ad' f' hp had => ?_)
  obtain ⟨rfl, rfl, rfl⟩ := hp
  refine z_st (st' := [.int (nI (if ¬ b < 0 ∧ ¬ nI (cn 5) ≤ b then 1 else 0))]) rfl ?_
  refine z_if_eqB X (tgt := 43) dX4_warm_5 (by decide) (fun c5 => ?_) (fun c5 => by exfalso; exact hb c5)
  refine z_ldc2d X dX4_warm_43 q_720 ?_
  refine z_dret X (Nat.le_of_ble_eq_true rfl) (Nat.le_of_ble_eq_true rfl) ?_ dX4_warm_46
  exact ⟨rfl, rfl, rfl⟩
set_option maxHeartbeats 4000000 in
set_option maxRecDepth 100000 in
theorem m_hold (l : Launch) (G : va_G) (cy : Nat → ClassId) (B : Nat) (ad : Nat → Nat) (cn : Nat → Nat) (u : Nat → Nat → Int32) (w : Nat → Nat → Int64) (x : Nat → Nat → UInt64) (h : Int32) : Ct l G cy B yX4_hold cX4_hold 2 (some .boolean) ({ frames := 1, cells := 0, slots := 0, locals := 25 } : Room) ad (MF cy ad cn u w x) [.ref (ad 0), .int h] (fun v ad' f' => v = some (.int (nI (if 1 ≤ h.toInt64 ∧ h.toInt64 ≤ 1000 then 1 else 0))) ∧ ad = ad' ∧ (if 1 ≤ h.toInt64 ∧ h.toInt64 ≤ 1000 then MF cy ad cn (va_up u 0 (upd (u 0) 17 h)) w x else MF cy ad cn u w x) = f') := by
  refine ct_of (by decide +kernel) (Nat.le_of_ble_eq_true rfl) ?_
  intro p e s m args below meth c X hnm
  refine z_lv (lv' := [(0, .ref (ad 0)), (1, .int h)]) [0, 1] rfl ?_
  refine z_iload_n X 1 dX4_hold_0 rfl rfl ?_
  refine z_i2l X dX4_hold_1 ?_
  refine z_lconst X (v := 1) dX4_hold_2 rfl ?_
  refine z_ldc2 X dX4_hold_3 q_725 ?_
  refine z_callS X (n := 3) (As := [.long h.toInt64, .long 1, .long 1000]) (rest := []) (c_X4_isIn l G cy B ad (MF cy ad cn u w x) h.toInt64 1 1000) q_652 q_653 q_29 q_654 (by decide +kernel) ⟨Nat.le_of_ble_eq_true rfl, Nat.le_of_ble_eq_true rfl⟩ rfl rfl (Nat.le_of_ble_eq_true rfl) dX4_hold_6 ⟨Nat.le_of_ble_eq_true rfl, Nat.le_of_ble_eq_true rfl⟩ (fun v ad' f' hp had => ?_)
  obtain ⟨rfl, rfl, rfl⟩ := hp
  refine z_st (st' := [.int (nI (if 1 ≤ h.toInt64 ∧ h.toInt64 ≤ 1000 then 1 else 0))]) rfl ?_
  refine z_if_neB X (tgt := 14) dX4_hold_9 (by decide) (fun c9 => ?_) (fun c9 => ?_)
  · refine z_aload_n X 0 dX4_hold_14 rfl rfl ?_
    refine z_iload_n X 1 dX4_hold_15 rfl rfl ?_
    refine z_put X (ty := .int) 0 17 wa_X4 tyX4 tyX4_ok nmX4 rfl rfl rfl (by decide) q_576 rfl rfl (by decide +kernel) rfl rfl (Nat.le_of_ble_eq_true rfl) dX4_hold_16 ?_
    refine z_f (MF_o (cn' := cn) (g := upd (u 0) 17 h) rfl) ?_
    refine z_iconst X (v := nI 1) dX4_hold_19 (by decide) ?_
    refine z_zret rfl X (Nat.le_of_ble_eq_true rfl) (Nat.le_of_ble_eq_true rfl) ?_ dX4_hold_20
    exact ⟨by rw [if_pos c9], rfl, by rw [if_pos c9]⟩
  · refine z_iconst X (v := nI 0) dX4_hold_12 (by decide) ?_
    refine z_zret rfl X (Nat.le_of_ble_eq_true rfl) (Nat.le_of_ble_eq_true rfl) ?_ dX4_hold_13
    exact ⟨by rw [if_neg c9], rfl, by rw [if_neg c9]⟩
set_option maxHeartbeats 4000000 in
set_option maxRecDepth 100000 in
theorem m_alarm (l : Launch) (G : va_G) (cy : Nat → ClassId) (B : Nat) (ad : Nat → Nat) (cn : Nat → Nat) (u : Nat → Nat → Int32) (w : Nat → Nat → Int64) (x : Nat → Nat → UInt64) (hc5 : cn 5 ≤ 12) (k : Int32) : Ct l G cy B yX4_alarm cX4_alarm 4 (some .int) ({ frames := 0, cells := 0, slots := 0, locals := 0 } : Room) ad (MF cy ad cn u w x) [.ref (ad 0), .int k] (fun v ad' f' => v = some (.int (scanK (fun b => decide (alarmP u b)) k (cn 5) 0 0)) ∧ ad = ad' ∧ MF cy ad cn u w x = f') := by
  refine ct_of (by decide +kernel) (Nat.le_of_ble_eq_true rfl) ?_
  intro p e s m args below meth c X hnm
  refine z_lv (lv' := [(0, .ref (ad 0)), (1, .int k)]) [0, 1] rfl ?_
  refine z_iconst X (v := nI 0) dX4_alarm_0 (by decide) ?_
  refine z_istore_n X (lv' := [(2, .int (nI 0)), (0, .ref (ad 0)), (1, .int k)]) dX4_alarm_1 rfl (by decide) rfl ?_
  refine z_iconst X (v := nI 0) dX4_alarm_2 (by decide) ?_
  refine z_istore_n X (lv' := [(3, .int (nI 0)), (2, .int (nI 0)), (0, .ref (ad 0)), (1, .int k)]) dX4_alarm_3 rfl (by decide) rfl ?_
  refine z_lv (lv' := [(0, .ref (ad 0)), (1, .int k), (2, .int (nI 0)), (3, .int (nI 0))]) [2, 3, 1, 0] rfl ?_
  have lp4 : ∀ (fu4 : Nat) (i sn : Nat), (i ≤ cn 5) → (sn ≤ i) → (scanK (fun b => decide (alarmP u b)) k (cn 5 - i) i sn = scanK (fun b => decide (alarmP u b)) k (cn 5) 0 0) → cn 5 + 1 ≤ i + fu4 → Z G B 4 ad (MF cy ad cn u w x) p l e ({ frames := 0, cells := 0, slots := 0, locals := 0 } : Room) s m args below meth c (zEnd G B ad (MF cy ad cn u w x) below args s ({ frames := 0, cells := 0, slots := 0, locals := 0 } : Room) (fun v ad' f' => v = some (.int (scanK (fun b => decide (alarmP u b)) k (cn 5) 0 0)) ∧ ad = ad' ∧ MF cy ad cn u w x = f')) ad (MF cy ad cn u w x) 0 0 4 [(0, .ref (ad 0)), (1, .int k), (2, .int (nI sn)), (3, .int (nI i))] [] := by
    intro fu4
    induction fu4 with
    | zero => intro i sn hi hsn hs hm4; exact absurd hm4 (by omega)
    | succ fu4 ih4 =>
      intro i sn hi hsn hs hm4
      refine z_iload_n X 3 dX4_alarm_4 rfl rfl ?_
      refine z_aload_n X 0 dX4_alarm_5 rfl rfl ?_
      refine z_get X (v := .int (nI (cn 5))) 0 5 wa_X4 rfl rfl rfl (by decide) q_564 rfl rfl dX4_alarm_6 ?_
      refine z_icmp_geN X (tgt := 51) (by omega) (by omega) dX4_alarm_9 (by decide) (fun c9 => ?_) (fun c9 => ?_)
      · refine z_iconst X (v := -1) dX4_alarm_51 (by decide) ?_
        refine z_iret X (Nat.le_of_ble_eq_true rfl) (Nat.le_of_ble_eq_true rfl) ?_ dX4_alarm_52
        exact ⟨by rw [← hs, show cn 5 - i = 0 by omega]; rfl, rfl, rfl⟩
      · refine z_aload_n X 0 dX4_alarm_12 rfl rfl ?_
        refine z_get X (v := .ref (ad 6)) 0 6 wa_X4 rfl rfl rfl (by decide) q_565 rfl rfl dX4_alarm_13 ?_
        refine z_iload_n X 3 dX4_alarm_16 rfl rfl ?_
        refine z_ialdN X (n := 12) (g := u 6) 6 rfl rfl (by omega) (by decide) dX4_alarm_17 ?_
        refine z_iconst X (v := nI 2) dX4_alarm_18 (by decide) ?_
        refine z_icmp_ge X (tgt := 45) dX4_alarm_19 (by decide) (fun c19 => ?_) (fun c19 => ?_)
        · refine z_iincN X 3 (k := 1) (lv' := [(3, .int (nI (i + 1))), (0, .ref (ad 0)), (1, .int k), (2, .int (nI sn))]) dX4_alarm_45 rfl (by decide) (by decide) rfl ?_
          refine z_goto X (tgt := 4) dX4_alarm_48 (by decide) ?_
          refine z_lv (lv' := [(0, .ref (ad 0)), (1, .int k), (2, .int (nI sn)), (3, .int (nI (i + 1)))]) [1, 2, 3, 0] rfl ?_
          exact ih4 (i + 1) sn (by omega) (by omega) (by rw [← hs]; exact scanK_f c9 (decide_eq_false (fun h => h.1 c19))) (by omega)
        · refine z_aload_n X 0 dX4_alarm_22 rfl rfl ?_
          refine z_get X (v := .ref (ad 8)) 0 8 wa_X4 rfl rfl rfl (by decide) q_567 rfl rfl dX4_alarm_23 ?_
          refine z_iload_n X 3 dX4_alarm_26 rfl rfl ?_
          refine z_ialdN X (n := 12) (g := u 8) 8 rfl rfl (by omega) (by decide) dX4_alarm_27 ?_
          refine z_aload_n X 0 dX4_alarm_28 rfl rfl ?_
          refine z_get X (v := .int (u 0 17)) 0 17 wa_X4 rfl rfl rfl (by decide) q_576 rfl rfl dX4_alarm_29 ?_
          refine z_icmp_lt X (tgt := 45) dX4_alarm_32 (by decide) (fun c32 => ?_) (fun c32 => ?_)
          · refine z_iincN X 3 (k := 1) (lv' := [(3, .int (nI (i + 1))), (0, .ref (ad 0)), (1, .int k), (2, .int (nI sn))]) dX4_alarm_45 rfl (by decide) (by decide) rfl ?_
            refine z_goto X (tgt := 4) dX4_alarm_48 (by decide) ?_
            refine z_lv (lv' := [(0, .ref (ad 0)), (1, .int k), (2, .int (nI sn)), (3, .int (nI (i + 1)))]) [1, 2, 3, 0] rfl ?_
            exact ih4 (i + 1) sn (by omega) (by omega) (by rw [← hs]; exact scanK_f c9 (decide_eq_false (fun h => h.2 c32))) (by omega)
          · refine z_iload_n X 2 dX4_alarm_35 rfl rfl ?_
            refine z_iload_n X 1 dX4_alarm_36 rfl rfl ?_
            refine z_icmp_ne X (tgt := 42) dX4_alarm_37 (by decide) (fun c37 => ?_) (fun c37 => ?_)
            · refine z_iincN X 2 (k := 1) (lv' := [(2, .int (nI (sn + 1))), (0, .ref (ad 0)), (1, .int k), (3, .int (nI i))]) dX4_alarm_42 rfl (by decide) (by decide) rfl ?_
              refine z_iincN X 3 (k := 1) (lv' := [(3, .int (nI (i + 1))), (2, .int (nI (sn + 1))), (0, .ref (ad 0)), (1, .int k)]) dX4_alarm_45 rfl (by decide) (by decide) rfl ?_
              refine z_goto X (tgt := 4) dX4_alarm_48 (by decide) ?_
              refine z_lv (lv' := [(0, .ref (ad 0)), (1, .int k), (2, .int (nI (sn + 1))), (3, .int (nI (i + 1)))]) [2, 3, 1, 0] rfl ?_
              exact ih4 (i + 1) (sn + 1) (by omega) (by omega) (by rw [← hs]; exact scanK_n c9 (decide_eq_true ⟨c19, c32⟩) c37) (by omega)
            · refine z_iload_n X 3 dX4_alarm_40 rfl rfl ?_
              refine z_iret X (Nat.le_of_ble_eq_true rfl) (Nat.le_of_ble_eq_true rfl) ?_ dX4_alarm_41
              exact ⟨by rw [← hs, ← scanK_y c9 (decide_eq_true ⟨c19, c32⟩) c37], rfl, rfl⟩
  exact lp4 (cn 5 + 1) 0 0 (by omega) (by omega) (by rfl) (by omega)
set_option maxHeartbeats 4000000 in
set_option maxRecDepth 100000 in
theorem m_stack (l : Launch) (G : va_G) (cy : Nat → ClassId) (B : Nat) (ad : Nat → Nat) (cn : Nat → Nat) (u : Nat → Nat → Int32) (w : Nat → Nat → Int64) (x : Nat → Nat → UInt64) (hc18 : cn 18 ≤ 4) (g h : Int32) : Ct l G cy B yX4_stack cX4_stack 3 (some .int) ({ frames := 1, cells := 0, slots := 0, locals := 25 } : Room) ad (MF cy ad cn u w x) [.ref (ad 0), .int g, .int h] (fun v ad' f' => v = some (.int (if okStackM cn g h then nI (cn 18) else -1)) ∧ ad = ad' ∧ (if okStackM cn g h then MF cy ad (va_up cn 18 (cn 18 + 1)) (va_up (va_up u 19 (upd (u 19) (cn 18) g)) 20 (upd (u 20) (cn 18) h)) w x else MF cy ad cn u w x) = f') := by
  refine ct_of (by decide +kernel) (Nat.le_of_ble_eq_true rfl) ?_
  intro p e s m args below meth c X hnm
  refine z_lv (lv' := [(0, .ref (ad 0)), (1, .int g), (2, .int h)]) [0, 1, 2] rfl ?_
  refine z_aload_n X 0 dX4_stack_0 rfl rfl ?_
  refine z_get X (v := .int (nI (cn 18))) 0 18 wa_X4 rfl rfl rfl (by decide) q_577 rfl rfl dX4_stack_1 ?_
  refine z_iconst X (v := nI 4) dX4_stack_4 (by decide) ?_
  refine z_icmp_eqN X (tgt := 32) (by omega) (by omega) dX4_stack_5 (by decide) (fun c5 => ?_) (fun c5 => ?_)
  · refine z_iconst X (v := -1) dX4_stack_32 (by decide) ?_
    refine z_iret X (Nat.le_of_ble_eq_true rfl) (Nat.le_of_ble_eq_true rfl) ?_ dX4_stack_33
    have h9 : ¬ okStackM cn g h := fun h9 => h9.1 c5
    exact ⟨by rw [if_neg h9], rfl, by rw [if_neg h9]⟩
  · refine z_iload_n X 1 dX4_stack_8 rfl rfl ?_
    refine z_i2l X dX4_stack_9 ?_
    refine z_lconst X (v := 0) dX4_stack_10 rfl ?_
    refine z_ldc2 X dX4_stack_11 q_691 ?_
    refine z_callS X (n := 3) (As := [.long g.toInt64, .long 0, .long 3]) (rest := []) (c_X4_isIn l G cy B ad (MF cy ad cn u w x) g.toInt64 0 3) q_652 q_653 q_29 q_654 (by decide +kernel) ⟨Nat.le_of_ble_eq_true rfl, Nat.le_of_ble_eq_true rfl⟩ rfl rfl (Nat.le_of_ble_eq_true rfl) dX4_stack_14 ⟨Nat.le_of_ble_eq_true rfl, Nat.le_of_ble_eq_true rfl⟩ (fun v ad' f' hp had => ?_)
    obtain ⟨rfl, rfl, rfl⟩ := hp
    refine z_st (st' := [.int (nI (if 0 ≤ g.toInt64 ∧ g.toInt64 ≤ 3 then 1 else 0))]) rfl ?_
    refine z_if_eqB X (tgt := 32) dX4_stack_17 (by decide) (fun c17 => ?_) (fun c17 => ?_)
    · refine z_iconst X (v := -1) dX4_stack_32 (by decide) ?_
      refine z_iret X (Nat.le_of_ble_eq_true rfl) (Nat.le_of_ble_eq_true rfl) ?_ dX4_stack_33
      have h9 : ¬ okStackM cn g h := fun h9 => c17 h9.2.1
      exact ⟨by rw [if_neg h9], rfl, by rw [if_neg h9]⟩
    · refine z_iload_n X 2 dX4_stack_20 rfl rfl ?_
      refine z_i2l X dX4_stack_21 ?_
      refine z_lconst X (v := 1) dX4_stack_22 rfl ?_
      refine z_ldc2 X dX4_stack_23 q_734 ?_
      refine z_callS X (n := 3) (As := [.long h.toInt64, .long 1, .long 6]) (rest := []) (c_X4_isIn l G cy B ad (MF cy ad cn u w x) h.toInt64 1 6) q_652 q_653 q_29 q_654 (by decide +kernel) ⟨Nat.le_of_ble_eq_true rfl, Nat.le_of_ble_eq_true rfl⟩ rfl rfl (Nat.le_of_ble_eq_true rfl) dX4_stack_26 ⟨Nat.le_of_ble_eq_true rfl, Nat.le_of_ble_eq_true rfl⟩ (fun v ad' f' hp had => ?_)
      obtain ⟨rfl, rfl, rfl⟩ := hp
      refine z_st (st' := [.int (nI (if 1 ≤ h.toInt64 ∧ h.toInt64 ≤ 6 then 1 else 0))]) rfl ?_
      refine z_if_neB X (tgt := 34) dX4_stack_29 (by decide) (fun c29 => ?_) (fun c29 => ?_)
      · refine z_aload_n X 0 dX4_stack_34 rfl rfl ?_
        refine z_get X (v := .ref (ad 19)) 0 19 wa_X4 rfl rfl rfl (by decide) q_578 rfl rfl dX4_stack_35 ?_
        refine z_aload_n X 0 dX4_stack_38 rfl rfl ?_
        refine z_get X (v := .int (nI (cn 18))) 0 18 wa_X4 rfl rfl rfl (by decide) q_577 rfl rfl dX4_stack_39 ?_
        refine z_iload_n X 1 dX4_stack_42 rfl rfl ?_
        refine z_iastN X (n := 4) (g := u 19) 19 rfl rfl (by omega) (by decide) dX4_stack_43 ?_
        refine z_f (MF_u 19 4 rfl (by decide) _) ?_
        refine z_aload_n X 0 dX4_stack_44 rfl rfl ?_
        refine z_get X (v := .ref (ad 20)) 0 20 wa_X4 rfl rfl rfl (by decide) q_579 rfl rfl dX4_stack_45 ?_
        refine z_aload_n X 0 dX4_stack_48 rfl rfl ?_
        refine z_get X (v := .int (nI (cn 18))) 0 18 wa_X4 rfl rfl rfl (by decide) q_577 rfl rfl dX4_stack_49 ?_
        refine z_iload_n X 2 dX4_stack_52 rfl rfl ?_
        refine z_iastN X (n := 4) (g := u 20) 20 rfl rfl (by omega) (by decide) dX4_stack_53 ?_
        refine z_f (MF_u 20 4 rfl (by decide) _) ?_
        refine z_aload_n X 0 dX4_stack_54 rfl rfl ?_
        refine z_dup X dX4_stack_55 rfl ?_
        refine z_get X (v := .int (nI (cn 18))) 0 18 wa_X4 rfl rfl rfl (by decide) q_577 rfl rfl dX4_stack_56 ?_
        refine z_iconst X (v := nI 1) dX4_stack_59 (by decide) ?_
        refine z_iaddN X dX4_stack_60 ?_
        refine z_put X (ty := .int) 0 18 wa_X4 tyX4 tyX4_ok nmX4 rfl rfl rfl (by decide) q_577 rfl rfl (by decide +kernel) rfl rfl (Nat.le_of_ble_eq_true rfl) dX4_stack_61 ?_
        refine z_f (MF_c (cn' := va_up cn 18 ((cn 18) + 1)) rfl) ?_
        refine z_aload_n X 0 dX4_stack_64 rfl rfl ?_
        refine z_get X (v := .int (nI ((cn 18) + 1))) 0 18 wa_X4 rfl rfl rfl (by decide) q_577 rfl rfl dX4_stack_65 ?_
        refine z_iconst X (v := nI 1) dX4_stack_68 (by decide) ?_
        refine z_isubN X (by omega) dX4_stack_69 ?_
        refine z_top (v' := .int (nI (cn 18))) (by rfl) ?_
        refine z_iret X (Nat.le_of_ble_eq_true rfl) (Nat.le_of_ble_eq_true rfl) ?_ dX4_stack_70
        have h9 : okStackM cn g h := ⟨c5, c17, c29⟩
        exact ⟨by rw [if_pos h9], rfl, by rw [if_pos h9]⟩
      · refine z_iconst X (v := -1) dX4_stack_32 (by decide) ?_
        refine z_iret X (Nat.le_of_ble_eq_true rfl) (Nat.le_of_ble_eq_true rfl) ?_ dX4_stack_33
        have h9 : ¬ okStackM cn g h := fun h9 => c29 h9.2.2
        exact ⟨by rw [if_neg h9], rfl, by rw [if_neg h9]⟩
set_option maxHeartbeats 4000000 in
set_option maxRecDepth 100000 in
theorem m_isClose (l : Launch) (G : va_G) (cy : Nat → ClassId) (B : Nat) (ad : Nat → Nat) (cn : Nat → Nat) (u : Nat → Nat → Int32) (w : Nat → Nat → Int64) (x : Nat → Nat → UInt64) (a b : Nat) (ha : a < 4) (hb : b < 4) : Ct l G cy B yX4_isClose cX4_isClose 5 (some .boolean) ({ frames := 0, cells := 0, slots := 0, locals := 0 } : Room) ad (MF cy ad cn u w x) [.ref (ad 0), .int (nI a), .int (nI b)] (fun v ad' f' => v = some (.int (nI (if closeM (u 19) a b then 1 else 0))) ∧ ad = ad' ∧ MF cy ad cn u w x = f') := by
  refine ct_of (by decide +kernel) (Nat.le_of_ble_eq_true rfl) ?_
  intro p e s m args below meth c X hnm
  refine z_lv (lv' := [(0, .ref (ad 0)), (1, .int (nI a)), (2, .int (nI b))]) [0, 1, 2] rfl ?_
  refine z_iload_n X 1 dX4_isClose_0 rfl rfl ?_
  refine z_iload_n X 2 dX4_isClose_1 rfl rfl ?_
  refine z_icmp_geN X (tgt := 9) (by omega) (by omega) dX4_isClose_2 (by decide) (fun c2 => ?_) (fun c2 => ?_)
  · refine z_iload_n X 2 dX4_isClose_9 rfl rfl ?_
    refine z_istore_n X (lv' := [(3, .int (nI b)), (0, .ref (ad 0)), (1, .int (nI a)), (2, .int (nI b))]) dX4_isClose_10 rfl (by decide) rfl ?_
    refine z_iload_n X 2 dX4_isClose_11 rfl rfl ?_
    refine z_iload_n X 3 dX4_isClose_12 rfl rfl ?_
    refine z_icmp_geN X (tgt := 20) (by omega) (by omega) dX4_isClose_13 (by decide) (fun c13 => ?_) (fun c13 => by exfalso; omega)
    refine z_iload_n X 2 dX4_isClose_20 rfl rfl ?_
    refine z_istore X (lv' := [(4, .int (nI a)), (3, .int (nI b)), (0, .ref (ad 0)), (1, .int (nI a)), (2, .int (nI b))]) dX4_isClose_21 (by decide) rfl ?_
    refine z_iload X 0 dX4_isClose_23 rfl ?_
    refine z_iload_n X 1 dX4_isClose_25 rfl rfl ?_
    refine z_icmp_eqN X (tgt := 43) (by omega) (by omega) dX4_isClose_26 (by decide) (fun c26 => ?_) (fun c26 => ?_)
    · refine z_iconst X (v := nI 1) dX4_isClose_43 (by decide) ?_
      refine z_goto X (tgt := 48) dX4_isClose_44 (by decide) ?_
      refine z_zret rfl X (Nat.le_of_ble_eq_true rfl) (Nat.le_of_ble_eq_true rfl) ?_ dX4_isClose_48
      have e1 : hiN a b = a := if_neg (by omega)
      have e2 : loN a b = b := if_neg (by omega)
      exact ⟨by rw [if_pos (Or.inl (by rw [e1, e2]; exact c26))], rfl, rfl⟩
    · refine z_iload X 0 dX4_isClose_29 rfl ?_
      refine z_iload_n X 1 dX4_isClose_31 rfl rfl ?_
      refine z_isubN X (by omega) dX4_isClose_32 ?_
      refine z_aload_n X 2 dX4_isClose_33 rfl rfl ?_
      refine z_get X (v := .ref (ad 19)) 0 19 wa_X4 rfl rfl rfl (by decide) q_578 rfl rfl dX4_isClose_34 ?_
      refine z_iload X 0 dX4_isClose_37 rfl ?_
      refine z_ialdN X (n := 4) (g := u 19) 19 rfl rfl (by omega) (by decide) dX4_isClose_39 ?_
      refine z_icmp_gt X (tgt := 47) dX4_isClose_40 (by decide) (fun c40 => ?_) (fun c40 => ?_)
      · refine z_iconst X (v := nI 0) dX4_isClose_47 (by decide) ?_
        refine z_zret rfl X (Nat.le_of_ble_eq_true rfl) (Nat.le_of_ble_eq_true rfl) ?_ dX4_isClose_48
        have e1 : hiN a b = a := if_neg (by omega)
        have e2 : loN a b = b := if_neg (by omega)
        exact ⟨by rw [if_neg (by rw [closeM, e1, e2]; exact fun h => h.elim (fun q => c26 q) (fun q => q c40))], rfl, rfl⟩
      · refine z_iconst X (v := nI 1) dX4_isClose_43 (by decide) ?_
        refine z_goto X (tgt := 48) dX4_isClose_44 (by decide) ?_
        refine z_zret rfl X (Nat.le_of_ble_eq_true rfl) (Nat.le_of_ble_eq_true rfl) ?_ dX4_isClose_48
        have e1 : hiN a b = a := if_neg (by omega)
        have e2 : loN a b = b := if_neg (by omega)
        exact ⟨by rw [if_pos (by rw [closeM, e1, e2]; exact Or.inr c40)], rfl, rfl⟩
  · refine z_iload_n X 1 dX4_isClose_5 rfl rfl ?_
    refine z_goto X (tgt := 10) dX4_isClose_6 (by decide) ?_
    refine z_istore_n X (lv' := [(3, .int (nI a)), (0, .ref (ad 0)), (1, .int (nI a)), (2, .int (nI b))]) dX4_isClose_10 rfl (by decide) rfl ?_
    refine z_iload_n X 2 dX4_isClose_11 rfl rfl ?_
    refine z_iload_n X 3 dX4_isClose_12 rfl rfl ?_
    refine z_icmp_geN X (tgt := 20) (by omega) (by omega) dX4_isClose_13 (by decide) (fun c13 => by exfalso; omega) (fun c13 => ?_)
    refine z_iload_n X 3 dX4_isClose_16 rfl rfl ?_
    refine z_goto X (tgt := 21) dX4_isClose_17 (by decide) ?_
    refine z_istore X (lv' := [(4, .int (nI b)), (3, .int (nI a)), (0, .ref (ad 0)), (1, .int (nI a)), (2, .int (nI b))]) dX4_isClose_21 (by decide) rfl ?_
    refine z_iload X 0 dX4_isClose_23 rfl ?_
    refine z_iload_n X 1 dX4_isClose_25 rfl rfl ?_
    refine z_icmp_eqN X (tgt := 43) (by omega) (by omega) dX4_isClose_26 (by decide) (fun c26 => ?_) (fun c26 => ?_)
    · refine z_iconst X (v := nI 1) dX4_isClose_43 (by decide) ?_
      refine z_goto X (tgt := 48) dX4_isClose_44 (by decide) ?_
      refine z_zret rfl X (Nat.le_of_ble_eq_true rfl) (Nat.le_of_ble_eq_true rfl) ?_ dX4_isClose_48
      have e1 : hiN a b = b := if_pos c2
      have e2 : loN a b = a := if_pos c2
      exact ⟨by rw [if_pos (Or.inl (by rw [e1, e2]; exact c26))], rfl, rfl⟩
    · refine z_iload X 0 dX4_isClose_29 rfl ?_
      refine z_iload_n X 1 dX4_isClose_31 rfl rfl ?_
      refine z_isubN X (by omega) dX4_isClose_32 ?_
      refine z_aload_n X 2 dX4_isClose_33 rfl rfl ?_
      refine z_get X (v := .ref (ad 19)) 0 19 wa_X4 rfl rfl rfl (by decide) q_578 rfl rfl dX4_isClose_34 ?_
      refine z_iload X 0 dX4_isClose_37 rfl ?_
      refine z_ialdN X (n := 4) (g := u 19) 19 rfl rfl (by omega) (by decide) dX4_isClose_39 ?_
      refine z_icmp_gt X (tgt := 47) dX4_isClose_40 (by decide) (fun c40 => ?_) (fun c40 => ?_)
      · refine z_iconst X (v := nI 0) dX4_isClose_47 (by decide) ?_
        refine z_zret rfl X (Nat.le_of_ble_eq_true rfl) (Nat.le_of_ble_eq_true rfl) ?_ dX4_isClose_48
        have e1 : hiN a b = b := if_pos c2
        have e2 : loN a b = a := if_pos c2
        exact ⟨by rw [if_neg (by rw [closeM, e1, e2]; exact fun h => h.elim (fun q => c26 q) (fun q => q c40))], rfl, rfl⟩
      · refine z_iconst X (v := nI 1) dX4_isClose_43 (by decide) ?_
        refine z_goto X (tgt := 48) dX4_isClose_44 (by decide) ?_
        refine z_zret rfl X (Nat.le_of_ble_eq_true rfl) (Nat.le_of_ble_eq_true rfl) ?_ dX4_isClose_48
        have e1 : hiN a b = b := if_pos c2
        have e2 : loN a b = a := if_pos c2
        exact ⟨by rw [if_pos (by rw [closeM, e1, e2]; exact Or.inr c40)], rfl, rfl⟩
set_option maxHeartbeats 4000000 in
set_option maxRecDepth 100000 in
theorem m_put_i (l : Launch) (G : va_G) (cy : Nat → ClassId) (B : Nat) (ad : Nat → Nat) (cn : Nat → Nat) (u : Nat → Nat → Int32) (w : Nat → Nat → Int64) (x : Nat → Nat → UInt64) (hc0 : cn 0 ≤ 200) (hc5 : cn 5 ≤ 12) (hc18 : cn 18 ≤ 4) (hst : ∀ b, b < cn 5 → u 6 b = nI 1 → ∃ s9, s9 < cn 18 ∧ u 10 b = nI s9) (j : Nat) (hj : j < cn 5) (st : Nat) (hs : st < cn 18) : Ct l G cy B yX4_put cX4_put 8 (some .int) ({ frames := 3, cells := 0, slots := 0, locals := 73 } : Room) ad (MF cy ad cn u w x) [.ref (ad 0), .int (nI j), .int (nI st)] (fun v ad' f' => v = some (.int (nI (putM cn u w x j st))) ∧ ad = ad' ∧ (if putM cn u w x j st = 0 then MF cy ad cn (va_up (va_up u 6 (upd (u 6) j (nI 1))) 10 (upd (u 10) j (nI st))) w x else MF cy ad cn u w x) = f') := by
  refine ct_of (by decide +kernel) (Nat.le_of_ble_eq_true rfl) ?_
  intro p e s m args below meth c X hnm
  refine z_lv (lv' := [(0, .ref (ad 0)), (1, .int (nI j)), (2, .int (nI st))]) [0, 1, 2] rfl ?_
  refine z_aload_n X 0 dX4_put_0 rfl rfl ?_
  refine z_iload_n X 1 dX4_put_1 rfl rfl ?_
  refine z_callV X (n := 1) (As := [.int (nI j)]) (rest := []) 0 rfl rfl rfl (m_isBale l G cy B ad cn u w x (nI j)) q_668 q_669 q_14 q_29 q_670 (by decide +kernel) ⟨Nat.le_of_ble_eq_true rfl, Nat.le_of_ble_eq_true rfl⟩ rfl rfl (Nat.le_of_ble_eq_true rfl) dX4_put_2 ⟨Nat.le_of_ble_eq_true rfl, Nat.le_of_ble_eq_true rfl⟩ (fun v ad' f' hp had => ?_)
  obtain ⟨rfl, rfl, rfl⟩ := hp
  refine z_st (st' := [.int (nI (if ¬ (nI j) < 0 ∧ ¬ nI (cn 5) ≤ (nI j) then 1 else 0))]) rfl ?_
  refine z_if_eqB X (tgt := 20) dX4_put_5 (by decide) (fun c5 => by exfalso; exact c5 ⟨nI_pos (by omega), nI_ge (by omega) (by omega)⟩) (fun c5 => ?_)
  refine z_iload_n X 2 dX4_put_8 rfl rfl ?_
  refine z_if_ltN X (tgt := 20) (by omega) dX4_put_9 (by decide) ?_
  refine z_iload_n X 2 dX4_put_12 rfl rfl ?_
  refine z_aload_n X 0 dX4_put_13 rfl rfl ?_
  refine z_get X (v := .int (nI (cn 18))) 0 18 wa_X4 rfl rfl rfl (by decide) q_577 rfl rfl dX4_put_14 ?_
  refine z_icmp_ltN X (tgt := 22) (by omega) (by omega) dX4_put_17 (by decide) (fun c17 => ?_) (fun c17 => by exfalso; omega)
  refine z_aload_n X 0 dX4_put_22 rfl rfl ?_
  refine z_get X (v := .ref (ad 6)) 0 6 wa_X4 rfl rfl rfl (by decide) q_565 rfl rfl dX4_put_23 ?_
  refine z_iload_n X 1 dX4_put_26 rfl rfl ?_
  refine z_ialdN X (n := 12) (g := u 6) 6 rfl rfl (by omega) (by decide) dX4_put_27 ?_
  refine z_if_eq X (tgt := 33) dX4_put_28 (by decide) (fun c28 => ?_) (fun c28 => ?_)
  · refine z_iconst X (v := nI 0) dX4_put_33 (by decide) ?_
    refine z_istore_n X (lv' := [(3, .int (nI 0)), (0, .ref (ad 0)), (1, .int (nI j)), (2, .int (nI st))]) dX4_put_34 rfl (by decide) rfl ?_
    refine z_iconst X (v := nI 0) dX4_put_35 (by decide) ?_
    refine z_istore X (lv' := [(4, .int (nI 0)), (3, .int (nI 0)), (0, .ref (ad 0)), (1, .int (nI j)), (2, .int (nI st))]) dX4_put_36 (by decide) rfl ?_
    refine z_aload_n X 2 dX4_put_38 rfl rfl ?_
    refine z_iload_n X 3 dX4_put_39 rfl rfl ?_
    refine z_callV X (n := 1) (As := [.int (nI j)]) (rest := []) 0 rfl rfl rfl (m_weight l G cy B ad cn u w x hc0 j (by omega)) q_686 q_687 q_17 q_29 q_688 (by decide +kernel) ⟨Nat.le_of_ble_eq_true rfl, Nat.le_of_ble_eq_true rfl⟩ rfl rfl (Nat.le_of_ble_eq_true rfl) dX4_put_40 ⟨Nat.le_of_ble_eq_true rfl, Nat.le_of_ble_eq_true rfl⟩ (fun v ad' f' hp had => ?_)
    obtain ⟨rfl, rfl, rfl⟩ := hp
    refine z_st (st' := [.long (weightM cn u w j)]) rfl ?_
    refine z_lstore X (lv' := [(5, .long (weightM cn u w j)), (4, .int (nI 0)), (3, .int (nI 0)), (0, .ref (ad 0)), (1, .int (nI j)), (2, .int (nI st))]) dX4_put_43 (by decide) rfl ?_
    refine z_iconst X (v := nI 0) dX4_put_45 (by decide) ?_
    refine z_istore X (lv' := [(7, .int (nI 0)), (5, .long (weightM cn u w j)), (4, .int (nI 0)), (3, .int (nI 0)), (0, .ref (ad 0)), (1, .int (nI j)), (2, .int (nI st))]) dX4_put_46 (by decide) rfl ?_
    refine z_lv (lv' := [(0, .ref (ad 0)), (1, .int (nI j)), (2, .int (nI st)), (3, .int (nI 0)), (4, .int (nI 0)), (5, .long (weightM cn u w j)), (7, .int (nI 0))]) [4, 5, 6, 3, 2, 1, 0] rfl ?_
    have lp48 : ∀ (fu48 : Nat) (i mn ot : Nat) (nv : Int64), (i ≤ cn 5) → (mn = cntN (fun b => decide (onM u (nI st) b)) i) → (ot = if anyB (fun b => decide (othM cn u w j (nI st) b)) i = true then 1 else 0) → (nv = nearM cn u w j st i) → cn 5 + 1 ≤ i + fu48 → Z G B 8 ad (MF cy ad cn u w x) p l e ({ frames := 3, cells := 0, slots := 0, locals := 73 } : Room) s m args below meth c (zEnd G B ad (MF cy ad cn u w x) below args s ({ frames := 3, cells := 0, slots := 0, locals := 73 } : Room) (fun v ad' f' => v = some (.int (nI (putM cn u w x j st))) ∧ ad = ad' ∧ (if putM cn u w x j st = 0 then MF cy ad cn (va_up (va_up u 6 (upd (u 6) j (nI 1))) 10 (upd (u 10) j (nI st))) w x else MF cy ad cn u w x) = f')) ad (MF cy ad cn u w x) 0 0 48 [(0, .ref (ad 0)), (1, .int (nI j)), (2, .int (nI st)), (3, .int (nI mn)), (4, .int (nI ot)), (5, .long nv), (7, .int (nI i))] [] := by
      intro fu48
      induction fu48 with
      | zero => intro i mn ot nv hi hm ho hn hm48; exact absurd hm48 (by omega)
      | succ fu48 ih48 =>
        intro i mn ot nv hi hm ho hn hm48
        refine z_iload X 6 dX4_put_48 rfl ?_
        refine z_aload_n X 0 dX4_put_50 rfl rfl ?_
        refine z_get X (v := .int (nI (cn 5))) 0 5 wa_X4 rfl rfl rfl (by decide) q_564 rfl rfl dX4_put_51 ?_
        refine z_icmp_geN X (tgt := 160) (by omega) (by omega) dX4_put_54 (by decide) (fun c54 => ?_) (fun c54 => ?_)
        · obtain rfl : i = cn 5 := by omega
          refine z_iload_n X 3 dX4_put_160 rfl rfl ?_
          refine z_aload_n X 0 dX4_put_161 rfl rfl ?_
          refine z_get X (v := .ref (ad 20)) 0 20 wa_X4 rfl rfl rfl (by decide) q_579 rfl rfl dX4_put_162 ?_
          refine z_iload_n X 2 dX4_put_165 rfl rfl ?_
          refine z_ialdN X (n := 4) (g := u 20) 20 rfl rfl (by omega) (by decide) dX4_put_166 ?_
          refine z_icmp_lt X (tgt := 172) dX4_put_167 (by decide) (fun c167 => ?_) (fun c167 => ?_)
          · refine z_aload_n X 0 dX4_put_172 rfl rfl ?_
            refine z_get X (v := .ref (ad 7)) 0 7 wa_X4 rfl rfl rfl (by decide) q_566 rfl rfl dX4_put_173 ?_
            refine z_iload_n X 1 dX4_put_176 rfl rfl ?_
            refine z_daldN X (n := 12) (g := x 7) 7 rfl rfl (by omega) (by decide) dX4_put_177 ?_
            refine z_ldc2d X dX4_put_178 q_719 ?_
            refine z_dcmp_lt X (tgt := 187) dX4_put_181 dX4_put_182 (by decide) (fun c181 => ?_) (fun c181 => ?_)
            · refine z_iload X 4 dX4_put_187 rfl ?_
              refine z_if_eqN X (tgt := 194) (by rw [ho]; exact b01_lt) dX4_put_189 (by decide) (fun c189 => ?_) (fun c189 => ?_)
              · refine z_lload X 5 dX4_put_194 rfl ?_
                refine z_ldc2 X dX4_put_196 q_655 ?_
                refine z_lcmp_le X (tgt := 206) dX4_put_199 dX4_put_200 (by decide) (fun c199 => ?_) (fun c199 => ?_)
                · refine z_aload_n X 0 dX4_put_206 rfl rfl ?_
                  refine z_get X (v := .ref (ad 6)) 0 6 wa_X4 rfl rfl rfl (by decide) q_565 rfl rfl dX4_put_207 ?_
                  refine z_iload_n X 1 dX4_put_210 rfl rfl ?_
                  refine z_iconst X (v := nI 1) dX4_put_211 (by decide) ?_
                  refine z_iastN X (n := 12) (g := u 6) 6 rfl rfl (by omega) (by decide) dX4_put_212 ?_
                  refine z_f (MF_u 6 12 rfl (by decide) _) ?_
                  refine z_aload_n X 0 dX4_put_213 rfl rfl ?_
                  refine z_get X (v := .ref (ad 10)) 0 10 wa_X4 rfl rfl rfl (by decide) q_569 rfl rfl dX4_put_214 ?_
                  refine z_iload_n X 1 dX4_put_217 rfl rfl ?_
                  refine z_iload_n X 2 dX4_put_218 rfl rfl ?_
                  refine z_iastN X (n := 12) (g := u 10) 10 rfl rfl (by omega) (by decide) dX4_put_219 ?_
                  refine z_f (MF_u 10 12 rfl (by decide) _) ?_
                  refine z_iconst X (v := nI 0) dX4_put_220 (by decide) ?_
                  refine z_iret X (Nat.le_of_ble_eq_true rfl) (Nat.le_of_ble_eq_true rfl) ?_ dX4_put_221
                  have h9 : putM cn u w x j st = 0 := by unfold putM; rw [if_neg (fun h => h c28), if_neg (fun h => h (by rw [← hm]; exact c167)), if_neg (by rw [c181]; exact Bool.false_ne_true), if_neg ((b01_0 (P := anyB (fun b => decide (othM cn u w j (nI st) b)) (cn 5) = true)).mp (by rw [← ho]; exact c189)), if_neg (fun h => h (by rw [← hn]; exact c199))]
                  exact ⟨by rw [h9], rfl, by rw [h9]; exact if_pos rfl⟩
                · refine z_bipush X (v := nI 6) dX4_put_203 (by decide) ?_
                  refine z_iret X (Nat.le_of_ble_eq_true rfl) (Nat.le_of_ble_eq_true rfl) ?_ dX4_put_205
                  have h9 : putM cn u w x j st = 6 := by unfold putM; rw [if_neg (fun h => h c28), if_neg (fun h => h (by rw [← hm]; exact c167)), if_neg (by rw [c181]; exact Bool.false_ne_true), if_neg ((b01_0 (P := anyB (fun b => decide (othM cn u w j (nI st) b)) (cn 5) = true)).mp (by rw [← ho]; exact c189)), if_pos (by rw [← hn]; exact c199)]
                  exact ⟨by rw [h9], rfl, by rw [h9]; exact if_neg (by decide)⟩
              · refine z_iconst X (v := nI 5) dX4_put_192 (by decide) ?_
                refine z_iret X (Nat.le_of_ble_eq_true rfl) (Nat.le_of_ble_eq_true rfl) ?_ dX4_put_193
                have h9 : putM cn u w x j st = 5 := by unfold putM; rw [if_neg (fun h => h c28), if_neg (fun h => h (by rw [← hm]; exact c167)), if_neg (by rw [c181]; exact Bool.false_ne_true), if_pos ((b01_n (P := anyB (fun b => decide (othM cn u w j (nI st) b)) (cn 5) = true)).mp (by rw [← ho]; exact c189))]
                exact ⟨by rw [h9], rfl, by rw [h9]; exact if_neg (by decide)⟩
            · refine z_iconst X (v := nI 4) dX4_put_185 (by decide) ?_
              refine z_iret X (Nat.le_of_ble_eq_true rfl) (Nat.le_of_ble_eq_true rfl) ?_ dX4_put_186
              have h9 : putM cn u w x j st = 4 := by unfold putM; rw [if_neg (fun h => h c28), if_neg (fun h => h (by rw [← hm]; exact c167)), if_pos c181]
              exact ⟨by rw [h9], rfl, by rw [h9]; exact if_neg (by decide)⟩
          · refine z_iconst X (v := nI 3) dX4_put_170 (by decide) ?_
            refine z_iret X (Nat.le_of_ble_eq_true rfl) (Nat.le_of_ble_eq_true rfl) ?_ dX4_put_171
            have h9 : putM cn u w x j st = 3 := by unfold putM; rw [if_neg (fun h => h c28), if_pos (by rw [← hm]; exact c167)]
            exact ⟨by rw [h9], rfl, by rw [h9]; exact if_neg (by decide)⟩
        · refine z_aload_n X 0 dX4_put_57 rfl rfl ?_
          refine z_get X (v := .ref (ad 6)) 0 6 wa_X4 rfl rfl rfl (by decide) q_565 rfl rfl dX4_put_58 ?_
          refine z_iload X 6 dX4_put_61 rfl ?_
          refine z_ialdN X (n := 12) (g := u 6) 6 rfl rfl (by omega) (by decide) dX4_put_63 ?_
          refine z_iconst X (v := nI 1) dX4_put_64 (by decide) ?_
          refine z_icmp_ne X (tgt := 154) dX4_put_65 (by decide) (fun c65 => ?_) (fun c65 => ?_)
          · refine z_iincN X 6 (k := 1) (lv' := [(7, .int (nI (i + 1))), (0, .ref (ad 0)), (1, .int (nI j)), (2, .int (nI st)), (3, .int (nI mn)), (4, .int (nI ot)), (5, .long nv)]) dX4_put_154 rfl (by decide) (by decide) rfl ?_
            refine z_goto X (tgt := 48) dX4_put_157 (by decide) ?_
            refine z_lv (lv' := [(0, .ref (ad 0)), (1, .int (nI j)), (2, .int (nI st)), (3, .int (nI mn)), (4, .int (nI ot)), (5, .long nv), (7, .int (nI (i + 1)))]) [1, 2, 3, 4, 5, 6, 0] rfl ?_
            exact ih48 (i + 1) mn ot nv (by omega) (by rw [hm]; exact (Nat.add_zero _).symm.trans (congrArg (fun z => cntN (fun b => decide (onM u (nI st) b)) i + z) (if_neg (fun h => c65 (of_decide_eq_true h).1)).symm)) (by rw [ho, anyB_s (fun h => c65 h.1.1)]) (by exact nearM_f hn (fun h => c65 h.1)) (by omega)
          · obtain ⟨s9, hs9, e9⟩ := hst i (by omega) c65
            refine z_iload_n X 3 dX4_put_68 rfl rfl ?_
            refine z_aload_n X 0 dX4_put_69 rfl rfl ?_
            refine z_get X (v := .ref (ad 10)) 0 10 wa_X4 rfl rfl rfl (by decide) q_569 rfl rfl dX4_put_70 ?_
            refine z_iload X 6 dX4_put_73 rfl ?_
            refine z_ialdN X (n := 12) (g := u 10) 10 rfl rfl (by omega) (by decide) dX4_put_75 ?_
            refine z_top (v' := .int (nI s9)) (by rw [e9]) ?_
            refine z_iload_n X 2 dX4_put_76 rfl rfl ?_
            refine z_icmp_neN X (tgt := 84) (by omega) (by omega) dX4_put_77 (by decide) (fun c77 => ?_) (fun c77 => ?_)
            · refine z_iconst X (v := nI 0) dX4_put_84 (by decide) ?_
              refine z_iaddN X dX4_put_85 ?_
              refine z_istore_n X (lv' := [(3, .int (nI (mn + 0))), (0, .ref (ad 0)), (1, .int (nI j)), (2, .int (nI st)), (4, .int (nI ot)), (5, .long nv), (7, .int (nI i))]) dX4_put_86 rfl (by decide) rfl ?_
              refine z_iload X 4 dX4_put_87 rfl ?_
              refine z_if_neN X (tgt := 117) (by rw [ho]; exact b01_lt) dX4_put_89 (by decide) (fun c89 => ?_) (fun c89 => ?_)
              · refine z_iconst X (v := nI 1) dX4_put_117 (by decide) ?_
                refine z_goto X (tgt := 122) dX4_put_118 (by decide) ?_
                refine z_istore X (lv' := [(4, .int (nI 1)), (3, .int (nI (mn + 0))), (0, .ref (ad 0)), (1, .int (nI j)), (2, .int (nI st)), (5, .long nv), (7, .int (nI i))]) dX4_put_122 (by decide) rfl ?_
                refine z_lload X 5 dX4_put_124 rfl ?_
                refine z_aload_n X 2 dX4_put_126 rfl rfl ?_
                refine z_aload_n X 2 dX4_put_127 rfl rfl ?_
                refine z_get X (v := .ref (ad 10)) 0 10 wa_X4 rfl rfl rfl (by decide) q_569 rfl rfl dX4_put_128 ?_
                refine z_iload X 6 dX4_put_131 rfl ?_
                refine z_ialdN X (n := 12) (g := u 10) 10 rfl rfl (by omega) (by decide) dX4_put_133 ?_
                refine z_top (v' := .int (nI s9)) (by rw [e9]) ?_
                refine z_iload_n X 4 dX4_put_134 rfl rfl ?_
                refine z_callV X (n := 2) (As := [.int (nI s9), .int (nI st)]) (rest := [.long nv]) 0 rfl rfl rfl (m_isClose l G cy B ad cn u w x s9 st (by omega) (by omega)) q_742 q_743 q_19 q_29 q_744 (by decide +kernel) ⟨Nat.le_of_ble_eq_true rfl, Nat.le_of_ble_eq_true rfl⟩ rfl rfl (Nat.le_of_ble_eq_true rfl) dX4_put_135 ⟨Nat.le_of_ble_eq_true rfl, Nat.le_of_ble_eq_true rfl⟩ (fun v ad' f' hp had => ?_)
                obtain ⟨rfl, rfl, rfl⟩ := hp
                refine z_st (st' := [.int (nI (if closeM (u 19) s9 st then 1 else 0)), .long nv]) rfl ?_
                refine z_if_eqB X (tgt := 150) dX4_put_138 (by decide) (fun c138 => ?_) (fun c138 => ?_)
                · refine z_lconst X (v := 0) dX4_put_150 rfl ?_
                  refine z_ladd X dX4_put_151 ?_
                  refine z_lstore X (lv' := [(5, .long (nv + 0)), (4, .int (nI 1)), (3, .int (nI (mn + 0))), (0, .ref (ad 0)), (1, .int (nI j)), (2, .int (nI st)), (7, .int (nI i))]) dX4_put_152 (by decide) rfl ?_
                  refine z_iincN X 6 (k := 1) (lv' := [(7, .int (nI (i + 1))), (5, .long (nv + 0)), (4, .int (nI 1)), (3, .int (nI (mn + 0))), (0, .ref (ad 0)), (1, .int (nI j)), (2, .int (nI st))]) dX4_put_154 rfl (by decide) (by decide) rfl ?_
                  refine z_goto X (tgt := 48) dX4_put_157 (by decide) ?_
                  refine z_lv (lv' := [(0, .ref (ad 0)), (1, .int (nI j)), (2, .int (nI st)), (3, .int (nI (mn + 0))), (4, .int (nI 1)), (5, .long (nv + 0)), (7, .int (nI (i + 1)))]) [4, 5, 6, 3, 2, 1, 0] rfl ?_
                  exact ih48 (i + 1) (mn + 0) 1 (nv + 0) (by omega) (by rw [hm]; exact congrArg (fun z => cntN (fun b => decide (onM u (nI st) b)) i + z) (if_neg (fun h => (fun h => c77 ((nI_eq (by omega) (by omega)).mp (e9.symm.trans h))) (of_decide_eq_true h).2)).symm) (by exact anyB_k ((b01_n (P := anyB (fun b => decide (othM cn u w j (nI st) b)) i = true)).mp (by rw [← ho]; exact c89))) (by rw [Int64.add_zero]; have e8 : (u 10 i).toNatClampNeg = s9 := (by rw [e9]; exact nI_clamp (by omega)); exact nearM_f hn (fun h => c138 (by rw [← e8]; exact h.2))) (by omega)
                · refine z_aload_n X 2 dX4_put_141 rfl rfl ?_
                  refine z_iload X 6 dX4_put_142 rfl ?_
                  refine z_callV X (n := 1) (As := [.int (nI i)]) (rest := [.long nv]) 0 rfl rfl rfl (m_weight l G cy B ad cn u w x hc0 i (by omega)) q_686 q_687 q_17 q_29 q_688 (by decide +kernel) ⟨Nat.le_of_ble_eq_true rfl, Nat.le_of_ble_eq_true rfl⟩ rfl rfl (Nat.le_of_ble_eq_true rfl) dX4_put_144 ⟨Nat.le_of_ble_eq_true rfl, Nat.le_of_ble_eq_true rfl⟩ (fun v ad' f' hp had => ?_)
                  obtain ⟨rfl, rfl, rfl⟩ := hp
                  refine z_st (st' := [.long (weightM cn u w i), .long nv]) rfl ?_
                  refine z_goto X (tgt := 151) dX4_put_147 (by decide) ?_
                  refine z_ladd X dX4_put_151 ?_
                  refine z_lstore X (lv' := [(5, .long (nv + (weightM cn u w i))), (4, .int (nI 1)), (3, .int (nI (mn + 0))), (0, .ref (ad 0)), (1, .int (nI j)), (2, .int (nI st)), (7, .int (nI i))]) dX4_put_152 (by decide) rfl ?_
                  refine z_iincN X 6 (k := 1) (lv' := [(7, .int (nI (i + 1))), (5, .long (nv + (weightM cn u w i))), (4, .int (nI 1)), (3, .int (nI (mn + 0))), (0, .ref (ad 0)), (1, .int (nI j)), (2, .int (nI st))]) dX4_put_154 rfl (by decide) (by decide) rfl ?_
                  refine z_goto X (tgt := 48) dX4_put_157 (by decide) ?_
                  refine z_lv (lv' := [(0, .ref (ad 0)), (1, .int (nI j)), (2, .int (nI st)), (3, .int (nI (mn + 0))), (4, .int (nI 1)), (5, .long (nv + (weightM cn u w i))), (7, .int (nI (i + 1)))]) [4, 5, 6, 3, 2, 1, 0] rfl ?_
                  exact ih48 (i + 1) (mn + 0) 1 (nv + (weightM cn u w i)) (by omega) (by rw [hm]; exact congrArg (fun z => cntN (fun b => decide (onM u (nI st) b)) i + z) (if_neg (fun h => (fun h => c77 ((nI_eq (by omega) (by omega)).mp (e9.symm.trans h))) (of_decide_eq_true h).2)).symm) (by exact anyB_k ((b01_n (P := anyB (fun b => decide (othM cn u w j (nI st) b)) i = true)).mp (by rw [← ho]; exact c89))) (by have e8 : (u 10 i).toNatClampNeg = s9 := (by rw [e9]; exact nI_clamp (by omega)); exact nearM_t hn ⟨c65, by rw [e8]; exact c138⟩) (by omega)
              · refine z_aload_n X 1 dX4_put_92 rfl rfl ?_
                refine z_get X (v := .ref (ad 10)) 0 10 wa_X4 rfl rfl rfl (by decide) q_569 rfl rfl dX4_put_93 ?_
                refine z_iload X 6 dX4_put_96 rfl ?_
                refine z_ialdN X (n := 12) (g := u 10) 10 rfl rfl (by omega) (by decide) dX4_put_98 ?_
                refine z_top (v' := .int (nI s9)) (by rw [e9]) ?_
                refine z_iload_n X 3 dX4_put_99 rfl rfl ?_
                refine z_icmp_neN X (tgt := 121) (by omega) (by omega) dX4_put_100 (by decide) (fun c100 => ?_) (fun c100 => ?_)
                · refine z_iconst X (v := nI 0) dX4_put_121 (by decide) ?_
                  refine z_istore X (lv' := [(4, .int (nI 0)), (3, .int (nI (mn + 0))), (0, .ref (ad 0)), (1, .int (nI j)), (2, .int (nI st)), (5, .long nv), (7, .int (nI i))]) dX4_put_122 (by decide) rfl ?_
                  refine z_lload X 5 dX4_put_124 rfl ?_
                  refine z_aload_n X 2 dX4_put_126 rfl rfl ?_
                  refine z_aload_n X 2 dX4_put_127 rfl rfl ?_
                  refine z_get X (v := .ref (ad 10)) 0 10 wa_X4 rfl rfl rfl (by decide) q_569 rfl rfl dX4_put_128 ?_
                  refine z_iload X 6 dX4_put_131 rfl ?_
                  refine z_ialdN X (n := 12) (g := u 10) 10 rfl rfl (by omega) (by decide) dX4_put_133 ?_
                  refine z_top (v' := .int (nI s9)) (by rw [e9]) ?_
                  refine z_iload_n X 4 dX4_put_134 rfl rfl ?_
                  refine z_callV X (n := 2) (As := [.int (nI s9), .int (nI st)]) (rest := [.long nv]) 0 rfl rfl rfl (m_isClose l G cy B ad cn u w x s9 st (by omega) (by omega)) q_742 q_743 q_19 q_29 q_744 (by decide +kernel) ⟨Nat.le_of_ble_eq_true rfl, Nat.le_of_ble_eq_true rfl⟩ rfl rfl (Nat.le_of_ble_eq_true rfl) dX4_put_135 ⟨Nat.le_of_ble_eq_true rfl, Nat.le_of_ble_eq_true rfl⟩ (fun v ad' f' hp had => ?_)
                  obtain ⟨rfl, rfl, rfl⟩ := hp
                  refine z_st (st' := [.int (nI (if closeM (u 19) s9 st then 1 else 0)), .long nv]) rfl ?_
                  refine z_if_eqB X (tgt := 150) dX4_put_138 (by decide) (fun c138 => ?_) (fun c138 => ?_)
                  · refine z_lconst X (v := 0) dX4_put_150 rfl ?_
                    refine z_ladd X dX4_put_151 ?_
                    refine z_lstore X (lv' := [(5, .long (nv + 0)), (4, .int (nI 0)), (3, .int (nI (mn + 0))), (0, .ref (ad 0)), (1, .int (nI j)), (2, .int (nI st)), (7, .int (nI i))]) dX4_put_152 (by decide) rfl ?_
                    refine z_iincN X 6 (k := 1) (lv' := [(7, .int (nI (i + 1))), (5, .long (nv + 0)), (4, .int (nI 0)), (3, .int (nI (mn + 0))), (0, .ref (ad 0)), (1, .int (nI j)), (2, .int (nI st))]) dX4_put_154 rfl (by decide) (by decide) rfl ?_
                    refine z_goto X (tgt := 48) dX4_put_157 (by decide) ?_
                    refine z_lv (lv' := [(0, .ref (ad 0)), (1, .int (nI j)), (2, .int (nI st)), (3, .int (nI (mn + 0))), (4, .int (nI 0)), (5, .long (nv + 0)), (7, .int (nI (i + 1)))]) [4, 5, 6, 3, 2, 1, 0] rfl ?_
                    exact ih48 (i + 1) (mn + 0) 0 (nv + 0) (by omega) (by rw [hm]; exact congrArg (fun z => cntN (fun b => decide (onM u (nI st) b)) i + z) (if_neg (fun h => (fun h => c77 ((nI_eq (by omega) (by omega)).mp (e9.symm.trans h))) (of_decide_eq_true h).2)).symm) (by exact anyB_f ((b01_0 (P := anyB (fun b => decide (othM cn u w j (nI st) b)) i = true)).mp (by rw [← ho]; exact c89)) (fun h => (fun h => c100 ((nI_eq (by omega) (by omega)).mp (e9.symm.trans h))) h.1.2)) (by rw [Int64.add_zero]; have e8 : (u 10 i).toNatClampNeg = s9 := (by rw [e9]; exact nI_clamp (by omega)); exact nearM_f hn (fun h => c138 (by rw [← e8]; exact h.2))) (by omega)
                  · refine z_aload_n X 2 dX4_put_141 rfl rfl ?_
                    refine z_iload X 6 dX4_put_142 rfl ?_
                    refine z_callV X (n := 1) (As := [.int (nI i)]) (rest := [.long nv]) 0 rfl rfl rfl (m_weight l G cy B ad cn u w x hc0 i (by omega)) q_686 q_687 q_17 q_29 q_688 (by decide +kernel) ⟨Nat.le_of_ble_eq_true rfl, Nat.le_of_ble_eq_true rfl⟩ rfl rfl (Nat.le_of_ble_eq_true rfl) dX4_put_144 ⟨Nat.le_of_ble_eq_true rfl, Nat.le_of_ble_eq_true rfl⟩ (fun v ad' f' hp had => ?_)
                    obtain ⟨rfl, rfl, rfl⟩ := hp
                    refine z_st (st' := [.long (weightM cn u w i), .long nv]) rfl ?_
                    refine z_goto X (tgt := 151) dX4_put_147 (by decide) ?_
                    refine z_ladd X dX4_put_151 ?_
                    refine z_lstore X (lv' := [(5, .long (nv + (weightM cn u w i))), (4, .int (nI 0)), (3, .int (nI (mn + 0))), (0, .ref (ad 0)), (1, .int (nI j)), (2, .int (nI st)), (7, .int (nI i))]) dX4_put_152 (by decide) rfl ?_
                    refine z_iincN X 6 (k := 1) (lv' := [(7, .int (nI (i + 1))), (5, .long (nv + (weightM cn u w i))), (4, .int (nI 0)), (3, .int (nI (mn + 0))), (0, .ref (ad 0)), (1, .int (nI j)), (2, .int (nI st))]) dX4_put_154 rfl (by decide) (by decide) rfl ?_
                    refine z_goto X (tgt := 48) dX4_put_157 (by decide) ?_
                    refine z_lv (lv' := [(0, .ref (ad 0)), (1, .int (nI j)), (2, .int (nI st)), (3, .int (nI (mn + 0))), (4, .int (nI 0)), (5, .long (nv + (weightM cn u w i))), (7, .int (nI (i + 1)))]) [4, 5, 6, 3, 2, 1, 0] rfl ?_
                    exact ih48 (i + 1) (mn + 0) 0 (nv + (weightM cn u w i)) (by omega) (by rw [hm]; exact congrArg (fun z => cntN (fun b => decide (onM u (nI st) b)) i + z) (if_neg (fun h => (fun h => c77 ((nI_eq (by omega) (by omega)).mp (e9.symm.trans h))) (of_decide_eq_true h).2)).symm) (by exact anyB_f ((b01_0 (P := anyB (fun b => decide (othM cn u w j (nI st) b)) i = true)).mp (by rw [← ho]; exact c89)) (fun h => (fun h => c100 ((nI_eq (by omega) (by omega)).mp (e9.symm.trans h))) h.1.2)) (by have e8 : (u 10 i).toNatClampNeg = s9 := (by rw [e9]; exact nI_clamp (by omega)); exact nearM_t hn ⟨c65, by rw [e8]; exact c138⟩) (by omega)
                · refine z_aload_n X 1 dX4_put_103 rfl rfl ?_
                  refine z_iload X 6 dX4_put_104 rfl ?_
                  refine z_callV X (n := 1) (As := [.int (nI i)]) (rest := []) 0 rfl rfl rfl (m_mainOf l G cy B ad cn u w x hc0 i (by omega)) q_739 q_740 q_18 q_29 q_741 (by decide +kernel) ⟨Nat.le_of_ble_eq_true rfl, Nat.le_of_ble_eq_true rfl⟩ rfl rfl (Nat.le_of_ble_eq_true rfl) dX4_put_106 ⟨Nat.le_of_ble_eq_true rfl, Nat.le_of_ble_eq_true rfl⟩ (fun v ad' f' hp had => ?_)
                  obtain ⟨rfl, rfl, rfl⟩ := hp
                  refine z_st (st' := [.int (nI (mainM cn u w i))]) rfl ?_
                  refine z_aload_n X 1 dX4_put_109 rfl rfl ?_
                  refine z_iload_n X 2 dX4_put_110 rfl rfl ?_
                  refine z_callV X (n := 1) (As := [.int (nI j)]) (rest := [.int (nI (mainM cn u w i))]) 0 rfl rfl rfl (m_mainOf l G cy B ad cn u w x hc0 j (by omega)) q_739 q_740 q_18 q_29 q_741 (by decide +kernel) ⟨Nat.le_of_ble_eq_true rfl, Nat.le_of_ble_eq_true rfl⟩ rfl rfl (Nat.le_of_ble_eq_true rfl) dX4_put_111 ⟨Nat.le_of_ble_eq_true rfl, Nat.le_of_ble_eq_true rfl⟩ (fun v ad' f' hp had => ?_)
                  obtain ⟨rfl, rfl, rfl⟩ := hp
                  refine z_st (st' := [.int (nI (mainM cn u w j)), .int (nI (mainM cn u w i))]) rfl ?_
                  refine z_icmp_eqN X (tgt := 121) (by first | exact Nat.lt_of_le_of_lt (mainL_le _ 3) (by decide) | omega) (by first | exact Nat.lt_of_le_of_lt (mainL_le _ 3) (by decide) | omega) dX4_put_114 (by decide) (fun c114 => ?_) (fun c114 => ?_)
                  · refine z_iconst X (v := nI 0) dX4_put_121 (by decide) ?_
                    refine z_istore X (lv' := [(4, .int (nI 0)), (3, .int (nI (mn + 0))), (0, .ref (ad 0)), (1, .int (nI j)), (2, .int (nI st)), (5, .long nv), (7, .int (nI i))]) dX4_put_122 (by decide) rfl ?_
                    refine z_lload X 5 dX4_put_124 rfl ?_
                    refine z_aload_n X 2 dX4_put_126 rfl rfl ?_
                    refine z_aload_n X 2 dX4_put_127 rfl rfl ?_
                    refine z_get X (v := .ref (ad 10)) 0 10 wa_X4 rfl rfl rfl (by decide) q_569 rfl rfl dX4_put_128 ?_
                    refine z_iload X 6 dX4_put_131 rfl ?_
                    refine z_ialdN X (n := 12) (g := u 10) 10 rfl rfl (by omega) (by decide) dX4_put_133 ?_
                    refine z_top (v' := .int (nI s9)) (by rw [e9]) ?_
                    refine z_iload_n X 4 dX4_put_134 rfl rfl ?_
                    refine z_callV X (n := 2) (As := [.int (nI s9), .int (nI st)]) (rest := [.long nv]) 0 rfl rfl rfl (m_isClose l G cy B ad cn u w x s9 st (by omega) (by omega)) q_742 q_743 q_19 q_29 q_744 (by decide +kernel) ⟨Nat.le_of_ble_eq_true rfl, Nat.le_of_ble_eq_true rfl⟩ rfl rfl (Nat.le_of_ble_eq_true rfl) dX4_put_135 ⟨Nat.le_of_ble_eq_true rfl, Nat.le_of_ble_eq_true rfl⟩ (fun v ad' f' hp had => ?_)
                    obtain ⟨rfl, rfl, rfl⟩ := hp
                    refine z_st (st' := [.int (nI (if closeM (u 19) s9 st then 1 else 0)), .long nv]) rfl ?_
                    refine z_if_eqB X (tgt := 150) dX4_put_138 (by decide) (fun c138 => ?_) (fun c138 => ?_)
                    · refine z_lconst X (v := 0) dX4_put_150 rfl ?_
                      refine z_ladd X dX4_put_151 ?_
                      refine z_lstore X (lv' := [(5, .long (nv + 0)), (4, .int (nI 0)), (3, .int (nI (mn + 0))), (0, .ref (ad 0)), (1, .int (nI j)), (2, .int (nI st)), (7, .int (nI i))]) dX4_put_152 (by decide) rfl ?_
                      refine z_iincN X 6 (k := 1) (lv' := [(7, .int (nI (i + 1))), (5, .long (nv + 0)), (4, .int (nI 0)), (3, .int (nI (mn + 0))), (0, .ref (ad 0)), (1, .int (nI j)), (2, .int (nI st))]) dX4_put_154 rfl (by decide) (by decide) rfl ?_
                      refine z_goto X (tgt := 48) dX4_put_157 (by decide) ?_
                      refine z_lv (lv' := [(0, .ref (ad 0)), (1, .int (nI j)), (2, .int (nI st)), (3, .int (nI (mn + 0))), (4, .int (nI 0)), (5, .long (nv + 0)), (7, .int (nI (i + 1)))]) [4, 5, 6, 3, 2, 1, 0] rfl ?_
                      exact ih48 (i + 1) (mn + 0) 0 (nv + 0) (by omega) (by rw [hm]; exact congrArg (fun z => cntN (fun b => decide (onM u (nI st) b)) i + z) (if_neg (fun h => (fun h => c77 ((nI_eq (by omega) (by omega)).mp (e9.symm.trans h))) (of_decide_eq_true h).2)).symm) (by exact anyB_f ((b01_0 (P := anyB (fun b => decide (othM cn u w j (nI st) b)) i = true)).mp (by rw [← ho]; exact c89)) (fun h => h.2 c114)) (by rw [Int64.add_zero]; have e8 : (u 10 i).toNatClampNeg = s9 := (by rw [e9]; exact nI_clamp (by omega)); exact nearM_f hn (fun h => c138 (by rw [← e8]; exact h.2))) (by omega)
                    · refine z_aload_n X 2 dX4_put_141 rfl rfl ?_
                      refine z_iload X 6 dX4_put_142 rfl ?_
                      refine z_callV X (n := 1) (As := [.int (nI i)]) (rest := [.long nv]) 0 rfl rfl rfl (m_weight l G cy B ad cn u w x hc0 i (by omega)) q_686 q_687 q_17 q_29 q_688 (by decide +kernel) ⟨Nat.le_of_ble_eq_true rfl, Nat.le_of_ble_eq_true rfl⟩ rfl rfl (Nat.le_of_ble_eq_true rfl) dX4_put_144 ⟨Nat.le_of_ble_eq_true rfl, Nat.le_of_ble_eq_true rfl⟩ (fun v ad' f' hp had => ?_)
                      obtain ⟨rfl, rfl, rfl⟩ := hp
                      refine z_st (st' := [.long (weightM cn u w i), .long nv]) rfl ?_
                      refine z_goto X (tgt := 151) dX4_put_147 (by decide) ?_
                      refine z_ladd X dX4_put_151 ?_
                      refine z_lstore X (lv' := [(5, .long (nv + (weightM cn u w i))), (4, .int (nI 0)), (3, .int (nI (mn + 0))), (0, .ref (ad 0)), (1, .int (nI j)), (2, .int (nI st)), (7, .int (nI i))]) dX4_put_152 (by decide) rfl ?_
                      refine z_iincN X 6 (k := 1) (lv' := [(7, .int (nI (i + 1))), (5, .long (nv + (weightM cn u w i))), (4, .int (nI 0)), (3, .int (nI (mn + 0))), (0, .ref (ad 0)), (1, .int (nI j)), (2, .int (nI st))]) dX4_put_154 rfl (by decide) (by decide) rfl ?_
                      refine z_goto X (tgt := 48) dX4_put_157 (by decide) ?_
                      refine z_lv (lv' := [(0, .ref (ad 0)), (1, .int (nI j)), (2, .int (nI st)), (3, .int (nI (mn + 0))), (4, .int (nI 0)), (5, .long (nv + (weightM cn u w i))), (7, .int (nI (i + 1)))]) [4, 5, 6, 3, 2, 1, 0] rfl ?_
                      exact ih48 (i + 1) (mn + 0) 0 (nv + (weightM cn u w i)) (by omega) (by rw [hm]; exact congrArg (fun z => cntN (fun b => decide (onM u (nI st) b)) i + z) (if_neg (fun h => (fun h => c77 ((nI_eq (by omega) (by omega)).mp (e9.symm.trans h))) (of_decide_eq_true h).2)).symm) (by exact anyB_f ((b01_0 (P := anyB (fun b => decide (othM cn u w j (nI st) b)) i = true)).mp (by rw [← ho]; exact c89)) (fun h => h.2 c114)) (by have e8 : (u 10 i).toNatClampNeg = s9 := (by rw [e9]; exact nI_clamp (by omega)); exact nearM_t hn ⟨c65, by rw [e8]; exact c138⟩) (by omega)
                  · refine z_iconst X (v := nI 1) dX4_put_117 (by decide) ?_
                    refine z_goto X (tgt := 122) dX4_put_118 (by decide) ?_
                    refine z_istore X (lv' := [(4, .int (nI 1)), (3, .int (nI (mn + 0))), (0, .ref (ad 0)), (1, .int (nI j)), (2, .int (nI st)), (5, .long nv), (7, .int (nI i))]) dX4_put_122 (by decide) rfl ?_
                    refine z_lload X 5 dX4_put_124 rfl ?_
                    refine z_aload_n X 2 dX4_put_126 rfl rfl ?_
                    refine z_aload_n X 2 dX4_put_127 rfl rfl ?_
                    refine z_get X (v := .ref (ad 10)) 0 10 wa_X4 rfl rfl rfl (by decide) q_569 rfl rfl dX4_put_128 ?_
                    refine z_iload X 6 dX4_put_131 rfl ?_
                    refine z_ialdN X (n := 12) (g := u 10) 10 rfl rfl (by omega) (by decide) dX4_put_133 ?_
                    refine z_top (v' := .int (nI s9)) (by rw [e9]) ?_
                    refine z_iload_n X 4 dX4_put_134 rfl rfl ?_
                    refine z_callV X (n := 2) (As := [.int (nI s9), .int (nI st)]) (rest := [.long nv]) 0 rfl rfl rfl (m_isClose l G cy B ad cn u w x s9 st (by omega) (by omega)) q_742 q_743 q_19 q_29 q_744 (by decide +kernel) ⟨Nat.le_of_ble_eq_true rfl, Nat.le_of_ble_eq_true rfl⟩ rfl rfl (Nat.le_of_ble_eq_true rfl) dX4_put_135 ⟨Nat.le_of_ble_eq_true rfl, Nat.le_of_ble_eq_true rfl⟩ (fun v ad' f' hp had => ?_)
                    obtain ⟨rfl, rfl, rfl⟩ := hp
                    refine z_st (st' := [.int (nI (if closeM (u 19) s9 st then 1 else 0)), .long nv]) rfl ?_
                    refine z_if_eqB X (tgt := 150) dX4_put_138 (by decide) (fun c138 => ?_) (fun c138 => ?_)
                    · refine z_lconst X (v := 0) dX4_put_150 rfl ?_
                      refine z_ladd X dX4_put_151 ?_
                      refine z_lstore X (lv' := [(5, .long (nv + 0)), (4, .int (nI 1)), (3, .int (nI (mn + 0))), (0, .ref (ad 0)), (1, .int (nI j)), (2, .int (nI st)), (7, .int (nI i))]) dX4_put_152 (by decide) rfl ?_
                      refine z_iincN X 6 (k := 1) (lv' := [(7, .int (nI (i + 1))), (5, .long (nv + 0)), (4, .int (nI 1)), (3, .int (nI (mn + 0))), (0, .ref (ad 0)), (1, .int (nI j)), (2, .int (nI st))]) dX4_put_154 rfl (by decide) (by decide) rfl ?_
                      refine z_goto X (tgt := 48) dX4_put_157 (by decide) ?_
                      refine z_lv (lv' := [(0, .ref (ad 0)), (1, .int (nI j)), (2, .int (nI st)), (3, .int (nI (mn + 0))), (4, .int (nI 1)), (5, .long (nv + 0)), (7, .int (nI (i + 1)))]) [4, 5, 6, 3, 2, 1, 0] rfl ?_
                      exact ih48 (i + 1) (mn + 0) 1 (nv + 0) (by omega) (by rw [hm]; exact congrArg (fun z => cntN (fun b => decide (onM u (nI st) b)) i + z) (if_neg (fun h => (fun h => c77 ((nI_eq (by omega) (by omega)).mp (e9.symm.trans h))) (of_decide_eq_true h).2)).symm) (by exact anyB_t ⟨⟨c65, e9.trans (congrArg nI c100)⟩, c114⟩) (by rw [Int64.add_zero]; have e8 : (u 10 i).toNatClampNeg = s9 := (by rw [e9]; exact nI_clamp (by omega)); exact nearM_f hn (fun h => c138 (by rw [← e8]; exact h.2))) (by omega)
                    · refine z_aload_n X 2 dX4_put_141 rfl rfl ?_
                      refine z_iload X 6 dX4_put_142 rfl ?_
                      refine z_callV X (n := 1) (As := [.int (nI i)]) (rest := [.long nv]) 0 rfl rfl rfl (m_weight l G cy B ad cn u w x hc0 i (by omega)) q_686 q_687 q_17 q_29 q_688 (by decide +kernel) ⟨Nat.le_of_ble_eq_true rfl, Nat.le_of_ble_eq_true rfl⟩ rfl rfl (Nat.le_of_ble_eq_true rfl) dX4_put_144 ⟨Nat.le_of_ble_eq_true rfl, Nat.le_of_ble_eq_true rfl⟩ (fun v ad' f' hp had => ?_)
                      obtain ⟨rfl, rfl, rfl⟩ := hp
                      refine z_st (st' := [.long (weightM cn u w i), .long nv]) rfl ?_
                      refine z_goto X (tgt := 151) dX4_put_147 (by decide) ?_
                      refine z_ladd X dX4_put_151 ?_
                      refine z_lstore X (lv' := [(5, .long (nv + (weightM cn u w i))), (4, .int (nI 1)), (3, .int (nI (mn + 0))), (0, .ref (ad 0)), (1, .int (nI j)), (2, .int (nI st)), (7, .int (nI i))]) dX4_put_152 (by decide) rfl ?_
                      refine z_iincN X 6 (k := 1) (lv' := [(7, .int (nI (i + 1))), (5, .long (nv + (weightM cn u w i))), (4, .int (nI 1)), (3, .int (nI (mn + 0))), (0, .ref (ad 0)), (1, .int (nI j)), (2, .int (nI st))]) dX4_put_154 rfl (by decide) (by decide) rfl ?_
                      refine z_goto X (tgt := 48) dX4_put_157 (by decide) ?_
                      refine z_lv (lv' := [(0, .ref (ad 0)), (1, .int (nI j)), (2, .int (nI st)), (3, .int (nI (mn + 0))), (4, .int (nI 1)), (5, .long (nv + (weightM cn u w i))), (7, .int (nI (i + 1)))]) [4, 5, 6, 3, 2, 1, 0] rfl ?_
                      exact ih48 (i + 1) (mn + 0) 1 (nv + (weightM cn u w i)) (by omega) (by rw [hm]; exact congrArg (fun z => cntN (fun b => decide (onM u (nI st) b)) i + z) (if_neg (fun h => (fun h => c77 ((nI_eq (by omega) (by omega)).mp (e9.symm.trans h))) (of_decide_eq_true h).2)).symm) (by exact anyB_t ⟨⟨c65, e9.trans (congrArg nI c100)⟩, c114⟩) (by have e8 : (u 10 i).toNatClampNeg = s9 := (by rw [e9]; exact nI_clamp (by omega)); exact nearM_t hn ⟨c65, by rw [e8]; exact c138⟩) (by omega)
            · refine z_iconst X (v := nI 1) dX4_put_80 (by decide) ?_
              refine z_goto X (tgt := 85) dX4_put_81 (by decide) ?_
              refine z_iaddN X dX4_put_85 ?_
              refine z_istore_n X (lv' := [(3, .int (nI (mn + 1))), (0, .ref (ad 0)), (1, .int (nI j)), (2, .int (nI st)), (4, .int (nI ot)), (5, .long nv), (7, .int (nI i))]) dX4_put_86 rfl (by decide) rfl ?_
              refine z_iload X 4 dX4_put_87 rfl ?_
              refine z_if_neN X (tgt := 117) (by rw [ho]; exact b01_lt) dX4_put_89 (by decide) (fun c89 => ?_) (fun c89 => ?_)
              · refine z_iconst X (v := nI 1) dX4_put_117 (by decide) ?_
                refine z_goto X (tgt := 122) dX4_put_118 (by decide) ?_
                refine z_istore X (lv' := [(4, .int (nI 1)), (3, .int (nI (mn + 1))), (0, .ref (ad 0)), (1, .int (nI j)), (2, .int (nI st)), (5, .long nv), (7, .int (nI i))]) dX4_put_122 (by decide) rfl ?_
                refine z_lload X 5 dX4_put_124 rfl ?_
                refine z_aload_n X 2 dX4_put_126 rfl rfl ?_
                refine z_aload_n X 2 dX4_put_127 rfl rfl ?_
                refine z_get X (v := .ref (ad 10)) 0 10 wa_X4 rfl rfl rfl (by decide) q_569 rfl rfl dX4_put_128 ?_
                refine z_iload X 6 dX4_put_131 rfl ?_
                refine z_ialdN X (n := 12) (g := u 10) 10 rfl rfl (by omega) (by decide) dX4_put_133 ?_
                refine z_top (v' := .int (nI s9)) (by rw [e9]) ?_
                refine z_iload_n X 4 dX4_put_134 rfl rfl ?_
                refine z_callV X (n := 2) (As := [.int (nI s9), .int (nI st)]) (rest := [.long nv]) 0 rfl rfl rfl (m_isClose l G cy B ad cn u w x s9 st (by omega) (by omega)) q_742 q_743 q_19 q_29 q_744 (by decide +kernel) ⟨Nat.le_of_ble_eq_true rfl, Nat.le_of_ble_eq_true rfl⟩ rfl rfl (Nat.le_of_ble_eq_true rfl) dX4_put_135 ⟨Nat.le_of_ble_eq_true rfl, Nat.le_of_ble_eq_true rfl⟩ (fun v ad' f' hp had => ?_)
                obtain ⟨rfl, rfl, rfl⟩ := hp
                refine z_st (st' := [.int (nI (if closeM (u 19) s9 st then 1 else 0)), .long nv]) rfl ?_
                refine z_if_eqB X (tgt := 150) dX4_put_138 (by decide) (fun c138 => ?_) (fun c138 => ?_)
                · refine z_lconst X (v := 0) dX4_put_150 rfl ?_
                  refine z_ladd X dX4_put_151 ?_
                  refine z_lstore X (lv' := [(5, .long (nv + 0)), (4, .int (nI 1)), (3, .int (nI (mn + 1))), (0, .ref (ad 0)), (1, .int (nI j)), (2, .int (nI st)), (7, .int (nI i))]) dX4_put_152 (by decide) rfl ?_
                  refine z_iincN X 6 (k := 1) (lv' := [(7, .int (nI (i + 1))), (5, .long (nv + 0)), (4, .int (nI 1)), (3, .int (nI (mn + 1))), (0, .ref (ad 0)), (1, .int (nI j)), (2, .int (nI st))]) dX4_put_154 rfl (by decide) (by decide) rfl ?_
                  refine z_goto X (tgt := 48) dX4_put_157 (by decide) ?_
                  refine z_lv (lv' := [(0, .ref (ad 0)), (1, .int (nI j)), (2, .int (nI st)), (3, .int (nI (mn + 1))), (4, .int (nI 1)), (5, .long (nv + 0)), (7, .int (nI (i + 1)))]) [4, 5, 6, 3, 2, 1, 0] rfl ?_
                  exact ih48 (i + 1) (mn + 1) 1 (nv + 0) (by omega) (by rw [hm]; exact congrArg (fun z => cntN (fun b => decide (onM u (nI st) b)) i + z) (if_pos (decide_eq_true (⟨c65, (e9.trans (congrArg nI c77))⟩ : onM u (nI st) i))).symm) (by exact anyB_k ((b01_n (P := anyB (fun b => decide (othM cn u w j (nI st) b)) i = true)).mp (by rw [← ho]; exact c89))) (by rw [Int64.add_zero]; have e8 : (u 10 i).toNatClampNeg = s9 := (by rw [e9]; exact nI_clamp (by omega)); exact nearM_f hn (fun h => c138 (by rw [← e8]; exact h.2))) (by omega)
                · refine z_aload_n X 2 dX4_put_141 rfl rfl ?_
                  refine z_iload X 6 dX4_put_142 rfl ?_
                  refine z_callV X (n := 1) (As := [.int (nI i)]) (rest := [.long nv]) 0 rfl rfl rfl (m_weight l G cy B ad cn u w x hc0 i (by omega)) q_686 q_687 q_17 q_29 q_688 (by decide +kernel) ⟨Nat.le_of_ble_eq_true rfl, Nat.le_of_ble_eq_true rfl⟩ rfl rfl (Nat.le_of_ble_eq_true rfl) dX4_put_144 ⟨Nat.le_of_ble_eq_true rfl, Nat.le_of_ble_eq_true rfl⟩ (fun v ad' f' hp had => ?_)
                  obtain ⟨rfl, rfl, rfl⟩ := hp
                  refine z_st (st' := [.long (weightM cn u w i), .long nv]) rfl ?_
                  refine z_goto X (tgt := 151) dX4_put_147 (by decide) ?_
                  refine z_ladd X dX4_put_151 ?_
                  refine z_lstore X (lv' := [(5, .long (nv + (weightM cn u w i))), (4, .int (nI 1)), (3, .int (nI (mn + 1))), (0, .ref (ad 0)), (1, .int (nI j)), (2, .int (nI st)), (7, .int (nI i))]) dX4_put_152 (by decide) rfl ?_
                  refine z_iincN X 6 (k := 1) (lv' := [(7, .int (nI (i + 1))), (5, .long (nv + (weightM cn u w i))), (4, .int (nI 1)), (3, .int (nI (mn + 1))), (0, .ref (ad 0)), (1, .int (nI j)), (2, .int (nI st))]) dX4_put_154 rfl (by decide) (by decide) rfl ?_
                  refine z_goto X (tgt := 48) dX4_put_157 (by decide) ?_
                  refine z_lv (lv' := [(0, .ref (ad 0)), (1, .int (nI j)), (2, .int (nI st)), (3, .int (nI (mn + 1))), (4, .int (nI 1)), (5, .long (nv + (weightM cn u w i))), (7, .int (nI (i + 1)))]) [4, 5, 6, 3, 2, 1, 0] rfl ?_
                  exact ih48 (i + 1) (mn + 1) 1 (nv + (weightM cn u w i)) (by omega) (by rw [hm]; exact congrArg (fun z => cntN (fun b => decide (onM u (nI st) b)) i + z) (if_pos (decide_eq_true (⟨c65, (e9.trans (congrArg nI c77))⟩ : onM u (nI st) i))).symm) (by exact anyB_k ((b01_n (P := anyB (fun b => decide (othM cn u w j (nI st) b)) i = true)).mp (by rw [← ho]; exact c89))) (by have e8 : (u 10 i).toNatClampNeg = s9 := (by rw [e9]; exact nI_clamp (by omega)); exact nearM_t hn ⟨c65, by rw [e8]; exact c138⟩) (by omega)
              · refine z_aload_n X 1 dX4_put_92 rfl rfl ?_
                refine z_get X (v := .ref (ad 10)) 0 10 wa_X4 rfl rfl rfl (by decide) q_569 rfl rfl dX4_put_93 ?_
                refine z_iload X 6 dX4_put_96 rfl ?_
                refine z_ialdN X (n := 12) (g := u 10) 10 rfl rfl (by omega) (by decide) dX4_put_98 ?_
                refine z_top (v' := .int (nI s9)) (by rw [e9]) ?_
                refine z_iload_n X 3 dX4_put_99 rfl rfl ?_
                refine z_icmp_neN X (tgt := 121) (by omega) (by omega) dX4_put_100 (by decide) (fun c100 => ?_) (fun c100 => ?_)
                · refine z_iconst X (v := nI 0) dX4_put_121 (by decide) ?_
                  refine z_istore X (lv' := [(4, .int (nI 0)), (3, .int (nI (mn + 1))), (0, .ref (ad 0)), (1, .int (nI j)), (2, .int (nI st)), (5, .long nv), (7, .int (nI i))]) dX4_put_122 (by decide) rfl ?_
                  refine z_lload X 5 dX4_put_124 rfl ?_
                  refine z_aload_n X 2 dX4_put_126 rfl rfl ?_
                  refine z_aload_n X 2 dX4_put_127 rfl rfl ?_
                  refine z_get X (v := .ref (ad 10)) 0 10 wa_X4 rfl rfl rfl (by decide) q_569 rfl rfl dX4_put_128 ?_
                  refine z_iload X 6 dX4_put_131 rfl ?_
                  refine z_ialdN X (n := 12) (g := u 10) 10 rfl rfl (by omega) (by decide) dX4_put_133 ?_
                  refine z_top (v' := .int (nI s9)) (by rw [e9]) ?_
                  refine z_iload_n X 4 dX4_put_134 rfl rfl ?_
                  refine z_callV X (n := 2) (As := [.int (nI s9), .int (nI st)]) (rest := [.long nv]) 0 rfl rfl rfl (m_isClose l G cy B ad cn u w x s9 st (by omega) (by omega)) q_742 q_743 q_19 q_29 q_744 (by decide +kernel) ⟨Nat.le_of_ble_eq_true rfl, Nat.le_of_ble_eq_true rfl⟩ rfl rfl (Nat.le_of_ble_eq_true rfl) dX4_put_135 ⟨Nat.le_of_ble_eq_true rfl, Nat.le_of_ble_eq_true rfl⟩ (fun v ad' f' hp had => ?_)
                  obtain ⟨rfl, rfl, rfl⟩ := hp
                  refine z_st (st' := [.int (nI (if closeM (u 19) s9 st then 1 else 0)), .long nv]) rfl ?_
                  refine z_if_eqB X (tgt := 150) dX4_put_138 (by decide) (fun c138 => ?_) (fun c138 => ?_)
                  · refine z_lconst X (v := 0) dX4_put_150 rfl ?_
                    refine z_ladd X dX4_put_151 ?_
                    refine z_lstore X (lv' := [(5, .long (nv + 0)), (4, .int (nI 0)), (3, .int (nI (mn + 1))), (0, .ref (ad 0)), (1, .int (nI j)), (2, .int (nI st)), (7, .int (nI i))]) dX4_put_152 (by decide) rfl ?_
                    refine z_iincN X 6 (k := 1) (lv' := [(7, .int (nI (i + 1))), (5, .long (nv + 0)), (4, .int (nI 0)), (3, .int (nI (mn + 1))), (0, .ref (ad 0)), (1, .int (nI j)), (2, .int (nI st))]) dX4_put_154 rfl (by decide) (by decide) rfl ?_
                    refine z_goto X (tgt := 48) dX4_put_157 (by decide) ?_
                    refine z_lv (lv' := [(0, .ref (ad 0)), (1, .int (nI j)), (2, .int (nI st)), (3, .int (nI (mn + 1))), (4, .int (nI 0)), (5, .long (nv + 0)), (7, .int (nI (i + 1)))]) [4, 5, 6, 3, 2, 1, 0] rfl ?_
                    exact ih48 (i + 1) (mn + 1) 0 (nv + 0) (by omega) (by rw [hm]; exact congrArg (fun z => cntN (fun b => decide (onM u (nI st) b)) i + z) (if_pos (decide_eq_true (⟨c65, (e9.trans (congrArg nI c77))⟩ : onM u (nI st) i))).symm) (by exact anyB_f ((b01_0 (P := anyB (fun b => decide (othM cn u w j (nI st) b)) i = true)).mp (by rw [← ho]; exact c89)) (fun h => (fun h => c100 ((nI_eq (by omega) (by omega)).mp (e9.symm.trans h))) h.1.2)) (by rw [Int64.add_zero]; have e8 : (u 10 i).toNatClampNeg = s9 := (by rw [e9]; exact nI_clamp (by omega)); exact nearM_f hn (fun h => c138 (by rw [← e8]; exact h.2))) (by omega)
                  · refine z_aload_n X 2 dX4_put_141 rfl rfl ?_
                    refine z_iload X 6 dX4_put_142 rfl ?_
                    refine z_callV X (n := 1) (As := [.int (nI i)]) (rest := [.long nv]) 0 rfl rfl rfl (m_weight l G cy B ad cn u w x hc0 i (by omega)) q_686 q_687 q_17 q_29 q_688 (by decide +kernel) ⟨Nat.le_of_ble_eq_true rfl, Nat.le_of_ble_eq_true rfl⟩ rfl rfl (Nat.le_of_ble_eq_true rfl) dX4_put_144 ⟨Nat.le_of_ble_eq_true rfl, Nat.le_of_ble_eq_true rfl⟩ (fun v ad' f' hp had => ?_)
                    obtain ⟨rfl, rfl, rfl⟩ := hp
                    refine z_st (st' := [.long (weightM cn u w i), .long nv]) rfl ?_
                    refine z_goto X (tgt := 151) dX4_put_147 (by decide) ?_
                    refine z_ladd X dX4_put_151 ?_
                    refine z_lstore X (lv' := [(5, .long (nv + (weightM cn u w i))), (4, .int (nI 0)), (3, .int (nI (mn + 1))), (0, .ref (ad 0)), (1, .int (nI j)), (2, .int (nI st)), (7, .int (nI i))]) dX4_put_152 (by decide) rfl ?_
                    refine z_iincN X 6 (k := 1) (lv' := [(7, .int (nI (i + 1))), (5, .long (nv + (weightM cn u w i))), (4, .int (nI 0)), (3, .int (nI (mn + 1))), (0, .ref (ad 0)), (1, .int (nI j)), (2, .int (nI st))]) dX4_put_154 rfl (by decide) (by decide) rfl ?_
                    refine z_goto X (tgt := 48) dX4_put_157 (by decide) ?_
                    refine z_lv (lv' := [(0, .ref (ad 0)), (1, .int (nI j)), (2, .int (nI st)), (3, .int (nI (mn + 1))), (4, .int (nI 0)), (5, .long (nv + (weightM cn u w i))), (7, .int (nI (i + 1)))]) [4, 5, 6, 3, 2, 1, 0] rfl ?_
                    exact ih48 (i + 1) (mn + 1) 0 (nv + (weightM cn u w i)) (by omega) (by rw [hm]; exact congrArg (fun z => cntN (fun b => decide (onM u (nI st) b)) i + z) (if_pos (decide_eq_true (⟨c65, (e9.trans (congrArg nI c77))⟩ : onM u (nI st) i))).symm) (by exact anyB_f ((b01_0 (P := anyB (fun b => decide (othM cn u w j (nI st) b)) i = true)).mp (by rw [← ho]; exact c89)) (fun h => (fun h => c100 ((nI_eq (by omega) (by omega)).mp (e9.symm.trans h))) h.1.2)) (by have e8 : (u 10 i).toNatClampNeg = s9 := (by rw [e9]; exact nI_clamp (by omega)); exact nearM_t hn ⟨c65, by rw [e8]; exact c138⟩) (by omega)
                · refine z_aload_n X 1 dX4_put_103 rfl rfl ?_
                  refine z_iload X 6 dX4_put_104 rfl ?_
                  refine z_callV X (n := 1) (As := [.int (nI i)]) (rest := []) 0 rfl rfl rfl (m_mainOf l G cy B ad cn u w x hc0 i (by omega)) q_739 q_740 q_18 q_29 q_741 (by decide +kernel) ⟨Nat.le_of_ble_eq_true rfl, Nat.le_of_ble_eq_true rfl⟩ rfl rfl (Nat.le_of_ble_eq_true rfl) dX4_put_106 ⟨Nat.le_of_ble_eq_true rfl, Nat.le_of_ble_eq_true rfl⟩ (fun v ad' f' hp had => ?_)
                  obtain ⟨rfl, rfl, rfl⟩ := hp
                  refine z_st (st' := [.int (nI (mainM cn u w i))]) rfl ?_
                  refine z_aload_n X 1 dX4_put_109 rfl rfl ?_
                  refine z_iload_n X 2 dX4_put_110 rfl rfl ?_
                  refine z_callV X (n := 1) (As := [.int (nI j)]) (rest := [.int (nI (mainM cn u w i))]) 0 rfl rfl rfl (m_mainOf l G cy B ad cn u w x hc0 j (by omega)) q_739 q_740 q_18 q_29 q_741 (by decide +kernel) ⟨Nat.le_of_ble_eq_true rfl, Nat.le_of_ble_eq_true rfl⟩ rfl rfl (Nat.le_of_ble_eq_true rfl) dX4_put_111 ⟨Nat.le_of_ble_eq_true rfl, Nat.le_of_ble_eq_true rfl⟩ (fun v ad' f' hp had => ?_)
                  obtain ⟨rfl, rfl, rfl⟩ := hp
                  refine z_st (st' := [.int (nI (mainM cn u w j)), .int (nI (mainM cn u w i))]) rfl ?_
                  refine z_icmp_eqN X (tgt := 121) (by first | exact Nat.lt_of_le_of_lt (mainL_le _ 3) (by decide) | omega) (by first | exact Nat.lt_of_le_of_lt (mainL_le _ 3) (by decide) | omega) dX4_put_114 (by decide) (fun c114 => ?_) (fun c114 => ?_)
                  · refine z_iconst X (v := nI 0) dX4_put_121 (by decide) ?_
                    refine z_istore X (lv' := [(4, .int (nI 0)), (3, .int (nI (mn + 1))), (0, .ref (ad 0)), (1, .int (nI j)), (2, .int (nI st)), (5, .long nv), (7, .int (nI i))]) dX4_put_122 (by decide) rfl ?_
                    refine z_lload X 5 dX4_put_124 rfl ?_
                    refine z_aload_n X 2 dX4_put_126 rfl rfl ?_
                    refine z_aload_n X 2 dX4_put_127 rfl rfl ?_
                    refine z_get X (v := .ref (ad 10)) 0 10 wa_X4 rfl rfl rfl (by decide) q_569 rfl rfl dX4_put_128 ?_
                    refine z_iload X 6 dX4_put_131 rfl ?_
                    refine z_ialdN X (n := 12) (g := u 10) 10 rfl rfl (by omega) (by decide) dX4_put_133 ?_
                    refine z_top (v' := .int (nI s9)) (by rw [e9]) ?_
                    refine z_iload_n X 4 dX4_put_134 rfl rfl ?_
                    refine z_callV X (n := 2) (As := [.int (nI s9), .int (nI st)]) (rest := [.long nv]) 0 rfl rfl rfl (m_isClose l G cy B ad cn u w x s9 st (by omega) (by omega)) q_742 q_743 q_19 q_29 q_744 (by decide +kernel) ⟨Nat.le_of_ble_eq_true rfl, Nat.le_of_ble_eq_true rfl⟩ rfl rfl (Nat.le_of_ble_eq_true rfl) dX4_put_135 ⟨Nat.le_of_ble_eq_true rfl, Nat.le_of_ble_eq_true rfl⟩ (fun v ad' f' hp had => ?_)
                    obtain ⟨rfl, rfl, rfl⟩ := hp
                    refine z_st (st' := [.int (nI (if closeM (u 19) s9 st then 1 else 0)), .long nv]) rfl ?_
                    refine z_if_eqB X (tgt := 150) dX4_put_138 (by decide) (fun c138 => ?_) (fun c138 => ?_)
                    · refine z_lconst X (v := 0) dX4_put_150 rfl ?_
                      refine z_ladd X dX4_put_151 ?_
                      refine z_lstore X (lv' := [(5, .long (nv + 0)), (4, .int (nI 0)), (3, .int (nI (mn + 1))), (0, .ref (ad 0)), (1, .int (nI j)), (2, .int (nI st)), (7, .int (nI i))]) dX4_put_152 (by decide) rfl ?_
                      refine z_iincN X 6 (k := 1) (lv' := [(7, .int (nI (i + 1))), (5, .long (nv + 0)), (4, .int (nI 0)), (3, .int (nI (mn + 1))), (0, .ref (ad 0)), (1, .int (nI j)), (2, .int (nI st))]) dX4_put_154 rfl (by decide) (by decide) rfl ?_
                      refine z_goto X (tgt := 48) dX4_put_157 (by decide) ?_
                      refine z_lv (lv' := [(0, .ref (ad 0)), (1, .int (nI j)), (2, .int (nI st)), (3, .int (nI (mn + 1))), (4, .int (nI 0)), (5, .long (nv + 0)), (7, .int (nI (i + 1)))]) [4, 5, 6, 3, 2, 1, 0] rfl ?_
                      exact ih48 (i + 1) (mn + 1) 0 (nv + 0) (by omega) (by rw [hm]; exact congrArg (fun z => cntN (fun b => decide (onM u (nI st) b)) i + z) (if_pos (decide_eq_true (⟨c65, (e9.trans (congrArg nI c77))⟩ : onM u (nI st) i))).symm) (by exact anyB_f ((b01_0 (P := anyB (fun b => decide (othM cn u w j (nI st) b)) i = true)).mp (by rw [← ho]; exact c89)) (fun h => h.2 c114)) (by rw [Int64.add_zero]; have e8 : (u 10 i).toNatClampNeg = s9 := (by rw [e9]; exact nI_clamp (by omega)); exact nearM_f hn (fun h => c138 (by rw [← e8]; exact h.2))) (by omega)
                    · refine z_aload_n X 2 dX4_put_141 rfl rfl ?_
                      refine z_iload X 6 dX4_put_142 rfl ?_
                      refine z_callV X (n := 1) (As := [.int (nI i)]) (rest := [.long nv]) 0 rfl rfl rfl (m_weight l G cy B ad cn u w x hc0 i (by omega)) q_686 q_687 q_17 q_29 q_688 (by decide +kernel) ⟨Nat.le_of_ble_eq_true rfl, Nat.le_of_ble_eq_true rfl⟩ rfl rfl (Nat.le_of_ble_eq_true rfl) dX4_put_144 ⟨Nat.le_of_ble_eq_true rfl, Nat.le_of_ble_eq_true rfl⟩ (fun v ad' f' hp had => ?_)
                      obtain ⟨rfl, rfl, rfl⟩ := hp
                      refine z_st (st' := [.long (weightM cn u w i), .long nv]) rfl ?_
                      refine z_goto X (tgt := 151) dX4_put_147 (by decide) ?_
                      refine z_ladd X dX4_put_151 ?_
                      refine z_lstore X (lv' := [(5, .long (nv + (weightM cn u w i))), (4, .int (nI 0)), (3, .int (nI (mn + 1))), (0, .ref (ad 0)), (1, .int (nI j)), (2, .int (nI st)), (7, .int (nI i))]) dX4_put_152 (by decide) rfl ?_
                      refine z_iincN X 6 (k := 1) (lv' := [(7, .int (nI (i + 1))), (5, .long (nv + (weightM cn u w i))), (4, .int (nI 0)), (3, .int (nI (mn + 1))), (0, .ref (ad 0)), (1, .int (nI j)), (2, .int (nI st))]) dX4_put_154 rfl (by decide) (by decide) rfl ?_
                      refine z_goto X (tgt := 48) dX4_put_157 (by decide) ?_
                      refine z_lv (lv' := [(0, .ref (ad 0)), (1, .int (nI j)), (2, .int (nI st)), (3, .int (nI (mn + 1))), (4, .int (nI 0)), (5, .long (nv + (weightM cn u w i))), (7, .int (nI (i + 1)))]) [4, 5, 6, 3, 2, 1, 0] rfl ?_
                      exact ih48 (i + 1) (mn + 1) 0 (nv + (weightM cn u w i)) (by omega) (by rw [hm]; exact congrArg (fun z => cntN (fun b => decide (onM u (nI st) b)) i + z) (if_pos (decide_eq_true (⟨c65, (e9.trans (congrArg nI c77))⟩ : onM u (nI st) i))).symm) (by exact anyB_f ((b01_0 (P := anyB (fun b => decide (othM cn u w j (nI st) b)) i = true)).mp (by rw [← ho]; exact c89)) (fun h => h.2 c114)) (by have e8 : (u 10 i).toNatClampNeg = s9 := (by rw [e9]; exact nI_clamp (by omega)); exact nearM_t hn ⟨c65, by rw [e8]; exact c138⟩) (by omega)
                  · refine z_iconst X (v := nI 1) dX4_put_117 (by decide) ?_
                    refine z_goto X (tgt := 122) dX4_put_118 (by decide) ?_
                    refine z_istore X (lv' := [(4, .int (nI 1)), (3, .int (nI (mn + 1))), (0, .ref (ad 0)), (1, .int (nI j)), (2, .int (nI st)), (5, .long nv), (7, .int (nI i))]) dX4_put_122 (by decide) rfl ?_
                    refine z_lload X 5 dX4_put_124 rfl ?_
                    refine z_aload_n X 2 dX4_put_126 rfl rfl ?_
                    refine z_aload_n X 2 dX4_put_127 rfl rfl ?_
                    refine z_get X (v := .ref (ad 10)) 0 10 wa_X4 rfl rfl rfl (by decide) q_569 rfl rfl dX4_put_128 ?_
                    refine z_iload X 6 dX4_put_131 rfl ?_
                    refine z_ialdN X (n := 12) (g := u 10) 10 rfl rfl (by omega) (by decide) dX4_put_133 ?_
                    refine z_top (v' := .int (nI s9)) (by rw [e9]) ?_
                    refine z_iload_n X 4 dX4_put_134 rfl rfl ?_
                    refine z_callV X (n := 2) (As := [.int (nI s9), .int (nI st)]) (rest := [.long nv]) 0 rfl rfl rfl (m_isClose l G cy B ad cn u w x s9 st (by omega) (by omega)) q_742 q_743 q_19 q_29 q_744 (by decide +kernel) ⟨Nat.le_of_ble_eq_true rfl, Nat.le_of_ble_eq_true rfl⟩ rfl rfl (Nat.le_of_ble_eq_true rfl) dX4_put_135 ⟨Nat.le_of_ble_eq_true rfl, Nat.le_of_ble_eq_true rfl⟩ (fun v ad' f' hp had => ?_)
                    obtain ⟨rfl, rfl, rfl⟩ := hp
                    refine z_st (st' := [.int (nI (if closeM (u 19) s9 st then 1 else 0)), .long nv]) rfl ?_
                    refine z_if_eqB X (tgt := 150) dX4_put_138 (by decide) (fun c138 => ?_) (fun c138 => ?_)
                    · refine z_lconst X (v := 0) dX4_put_150 rfl ?_
                      refine z_ladd X dX4_put_151 ?_
                      refine z_lstore X (lv' := [(5, .long (nv + 0)), (4, .int (nI 1)), (3, .int (nI (mn + 1))), (0, .ref (ad 0)), (1, .int (nI j)), (2, .int (nI st)), (7, .int (nI i))]) dX4_put_152 (by decide) rfl ?_
                      refine z_iincN X 6 (k := 1) (lv' := [(7, .int (nI (i + 1))), (5, .long (nv + 0)), (4, .int (nI 1)), (3, .int (nI (mn + 1))), (0, .ref (ad 0)), (1, .int (nI j)), (2, .int (nI st))]) dX4_put_154 rfl (by decide) (by decide) rfl ?_
                      refine z_goto X (tgt := 48) dX4_put_157 (by decide) ?_
                      refine z_lv (lv' := [(0, .ref (ad 0)), (1, .int (nI j)), (2, .int (nI st)), (3, .int (nI (mn + 1))), (4, .int (nI 1)), (5, .long (nv + 0)), (7, .int (nI (i + 1)))]) [4, 5, 6, 3, 2, 1, 0] rfl ?_
                      exact ih48 (i + 1) (mn + 1) 1 (nv + 0) (by omega) (by rw [hm]; exact congrArg (fun z => cntN (fun b => decide (onM u (nI st) b)) i + z) (if_pos (decide_eq_true (⟨c65, (e9.trans (congrArg nI c77))⟩ : onM u (nI st) i))).symm) (by exact anyB_t ⟨⟨c65, e9.trans (congrArg nI c100)⟩, c114⟩) (by rw [Int64.add_zero]; have e8 : (u 10 i).toNatClampNeg = s9 := (by rw [e9]; exact nI_clamp (by omega)); exact nearM_f hn (fun h => c138 (by rw [← e8]; exact h.2))) (by omega)
                    · refine z_aload_n X 2 dX4_put_141 rfl rfl ?_
                      refine z_iload X 6 dX4_put_142 rfl ?_
                      refine z_callV X (n := 1) (As := [.int (nI i)]) (rest := [.long nv]) 0 rfl rfl rfl (m_weight l G cy B ad cn u w x hc0 i (by omega)) q_686 q_687 q_17 q_29 q_688 (by decide +kernel) ⟨Nat.le_of_ble_eq_true rfl, Nat.le_of_ble_eq_true rfl⟩ rfl rfl (Nat.le_of_ble_eq_true rfl) dX4_put_144 ⟨Nat.le_of_ble_eq_true rfl, Nat.le_of_ble_eq_true rfl⟩ (fun v ad' f' hp had => ?_)
                      obtain ⟨rfl, rfl, rfl⟩ := hp
                      refine z_st (st' := [.long (weightM cn u w i), .long nv]) rfl ?_
                      refine z_goto X (tgt := 151) dX4_put_147 (by decide) ?_
                      refine z_ladd X dX4_put_151 ?_
                      refine z_lstore X (lv' := [(5, .long (nv + (weightM cn u w i))), (4, .int (nI 1)), (3, .int (nI (mn + 1))), (0, .ref (ad 0)), (1, .int (nI j)), (2, .int (nI st)), (7, .int (nI i))]) dX4_put_152 (by decide) rfl ?_
                      refine z_iincN X 6 (k := 1) (lv' := [(7, .int (nI (i + 1))), (5, .long (nv + (weightM cn u w i))), (4, .int (nI 1)), (3, .int (nI (mn + 1))), (0, .ref (ad 0)), (1, .int (nI j)), (2, .int (nI st))]) dX4_put_154 rfl (by decide) (by decide) rfl ?_
                      refine z_goto X (tgt := 48) dX4_put_157 (by decide) ?_
                      refine z_lv (lv' := [(0, .ref (ad 0)), (1, .int (nI j)), (2, .int (nI st)), (3, .int (nI (mn + 1))), (4, .int (nI 1)), (5, .long (nv + (weightM cn u w i))), (7, .int (nI (i + 1)))]) [4, 5, 6, 3, 2, 1, 0] rfl ?_
                      exact ih48 (i + 1) (mn + 1) 1 (nv + (weightM cn u w i)) (by omega) (by rw [hm]; exact congrArg (fun z => cntN (fun b => decide (onM u (nI st) b)) i + z) (if_pos (decide_eq_true (⟨c65, (e9.trans (congrArg nI c77))⟩ : onM u (nI st) i))).symm) (by exact anyB_t ⟨⟨c65, e9.trans (congrArg nI c100)⟩, c114⟩) (by have e8 : (u 10 i).toNatClampNeg = s9 := (by rw [e9]; exact nI_clamp (by omega)); exact nearM_t hn ⟨c65, by rw [e8]; exact c138⟩) (by omega)
    exact lp48 (cn 5 + 1) 0 0 0 (weightM cn u w j) (by omega) (by rfl) (by rfl) (by unfold nearM sumL; exact (Int64.add_zero _).symm) (by omega)
  · refine z_iconst X (v := nI 2) dX4_put_31 (by decide) ?_
    refine z_iret X (Nat.le_of_ble_eq_true rfl) (Nat.le_of_ble_eq_true rfl) ?_ dX4_put_32
    have h9 : putM cn u w x j st = 2 := by unfold putM; rw [if_pos c28]
    exact ⟨by rw [h9], rfl, by rw [h9]; exact if_neg (by decide)⟩
set_option maxHeartbeats 4000000 in
set_option maxRecDepth 100000 in
theorem m_put_o1 (l : Launch) (G : va_G) (cy : Nat → ClassId) (B : Nat) (ad : Nat → Nat) (cn : Nat → Nat) (u : Nat → Nat → Int32) (w : Nat → Nat → Int64) (x : Nat → Nat → UInt64) (b : Int32) (hb : ¬ (¬ b < 0 ∧ ¬ nI (cn 5) ≤ b)) (st : Int32) : Ct l G cy B yX4_put cX4_put 8 (some .int) ({ frames := 1, cells := 0, slots := 0, locals := 21 } : Room) ad (MF cy ad cn u w x) [.ref (ad 0), .int b, .int st] (fun v ad' f' => v = some (.int (nI 1)) ∧ ad = ad' ∧ MF cy ad cn u w x = f') := by
  refine ct_of (by decide +kernel) (Nat.le_of_ble_eq_true rfl) ?_
  intro p e s m args below meth c X hnm
  refine z_lv (lv' := [(0, .ref (ad 0)), (1, .int b), (2, .int st)]) [0, 1, 2] rfl ?_
  refine z_aload_n X 0 dX4_put_0 rfl rfl ?_
  refine z_iload_n X 1 dX4_put_1 rfl rfl ?_
  refine z_callV X (n := 1) (As := [.int b]) (rest := []) 0 rfl rfl rfl (m_isBale l G cy B ad cn u w x b) q_668 q_669 q_14 q_29 q_670 (by decide +kernel) ⟨Nat.le_of_ble_eq_true rfl, Nat.le_of_ble_eq_true rfl⟩ rfl rfl (Nat.le_of_ble_eq_true rfl) dX4_put_2 ⟨Nat.le_of_ble_eq_true rfl, Nat.le_of_ble_eq_true rfl⟩ (fun v ad' f' hp had => ?_)
  obtain ⟨rfl, rfl, rfl⟩ := hp
  refine z_st (st' := [.int (nI (if ¬ b < 0 ∧ ¬ nI (cn 5) ≤ b then 1 else 0))]) rfl ?_
  refine z_if_eqB X (tgt := 20) dX4_put_5 (by decide) (fun c5 => ?_) (fun c5 => by exfalso; exact hb c5)
  refine z_iconst X (v := nI 1) dX4_put_20 (by decide) ?_
  refine z_iret X (Nat.le_of_ble_eq_true rfl) (Nat.le_of_ble_eq_true rfl) ?_ dX4_put_21
  exact ⟨rfl, rfl, rfl⟩
set_option maxHeartbeats 4000000 in
set_option maxRecDepth 100000 in
theorem m_put_o2 (l : Launch) (G : va_G) (cy : Nat → ClassId) (B : Nat) (ad : Nat → Nat) (cn : Nat → Nat) (u : Nat → Nat → Int32) (w : Nat → Nat → Int64) (x : Nat → Nat → UInt64) (hc5 : cn 5 ≤ 12) (j : Nat) (hj : j < cn 5) (st : Int32) (hs : ¬ (¬ st < 0 ∧ ¬ nI (cn 18) ≤ st)) : Ct l G cy B yX4_put cX4_put 8 (some .int) ({ frames := 1, cells := 0, slots := 0, locals := 21 } : Room) ad (MF cy ad cn u w x) [.ref (ad 0), .int (nI j), .int st] (fun v ad' f' => v = some (.int (nI 1)) ∧ ad = ad' ∧ MF cy ad cn u w x = f') := by
  refine ct_of (by decide +kernel) (Nat.le_of_ble_eq_true rfl) ?_
  intro p e s m args below meth c X hnm
  refine z_lv (lv' := [(0, .ref (ad 0)), (1, .int (nI j)), (2, .int st)]) [0, 1, 2] rfl ?_
  refine z_aload_n X 0 dX4_put_0 rfl rfl ?_
  refine z_iload_n X 1 dX4_put_1 rfl rfl ?_
  refine z_callV X (n := 1) (As := [.int (nI j)]) (rest := []) 0 rfl rfl rfl (m_isBale l G cy B ad cn u w x (nI j)) q_668 q_669 q_14 q_29 q_670 (by decide +kernel) ⟨Nat.le_of_ble_eq_true rfl, Nat.le_of_ble_eq_true rfl⟩ rfl rfl (Nat.le_of_ble_eq_true rfl) dX4_put_2 ⟨Nat.le_of_ble_eq_true rfl, Nat.le_of_ble_eq_true rfl⟩ (fun v ad' f' hp had => ?_)
  obtain ⟨rfl, rfl, rfl⟩ := hp
  refine z_st (st' := [.int (nI (if ¬ (nI j) < 0 ∧ ¬ nI (cn 5) ≤ (nI j) then 1 else 0))]) rfl ?_
  refine z_if_eqB X (tgt := 20) dX4_put_5 (by decide) (fun c5 => by exfalso; exact c5 ⟨nI_pos (by omega), nI_ge (by omega) (by omega)⟩) (fun c5 => ?_)
  refine z_iload_n X 2 dX4_put_8 rfl rfl ?_
  refine z_if_lt X (tgt := 20) dX4_put_9 (by decide) (fun c9 => ?_) (fun c9 => ?_)
  · refine z_iconst X (v := nI 1) dX4_put_20 (by decide) ?_
    refine z_iret X (Nat.le_of_ble_eq_true rfl) (Nat.le_of_ble_eq_true rfl) ?_ dX4_put_21
    exact ⟨rfl, rfl, rfl⟩
  · refine z_iload_n X 2 dX4_put_12 rfl rfl ?_
    refine z_aload_n X 0 dX4_put_13 rfl rfl ?_
    refine z_get X (v := .int (nI (cn 18))) 0 18 wa_X4 rfl rfl rfl (by decide) q_577 rfl rfl dX4_put_14 ?_
    refine z_icmp_lt X (tgt := 22) dX4_put_17 (by decide) (fun c17 => by exfalso; exact hs ⟨c9, Int32.not_le.mpr c17⟩) (fun c17 => ?_)
    refine z_iconst X (v := nI 1) dX4_put_20 (by decide) ?_
    refine z_iret X (Nat.le_of_ble_eq_true rfl) (Nat.le_of_ble_eq_true rfl) ?_ dX4_put_21
    exact ⟨rfl, rfl, rfl⟩
set_option maxHeartbeats 4000000 in
set_option maxRecDepth 100000 in
theorem m_first (l : Launch) (G : va_G) (cy : Nat → ClassId) (B : Nat) (ad : Nat → Nat) (cn : Nat → Nat) (u : Nat → Nat → Int32) (w : Nat → Nat → Int64) (x : Nat → Nat → UInt64) (hc0 : cn 0 ≤ 200) (hc5 : cn 5 ≤ 12) (k : Int32) : Ct l G cy B yX4_first cX4_first 3 (some .int) ({ frames := 3, cells := 0, slots := 0, locals := 72 } : Room) ad (MF cy ad cn u w x) [.ref (ad 0), .int k] (fun v ad' f' => v = some (.int (if scanF (fun b => decide (firstP cn u w k b)) (cn 5) 0 < cn 5 then nI (scanF (fun b => decide (firstP cn u w k b)) (cn 5) 0) else -1)) ∧ ad = ad' ∧ (if scanF (fun b => decide (firstP cn u w k b)) (cn 5) 0 < cn 5 then MF cy ad cn (va_up u 6 (upd (u 6) (scanF (fun b => decide (firstP cn u w k b)) (cn 5) 0) (nI 2))) w x else MF cy ad cn u w x) = f') := by
  refine ct_of (by decide +kernel) (Nat.le_of_ble_eq_true rfl) ?_
  intro p e s m args below meth c X hnm
  refine z_lv (lv' := [(0, .ref (ad 0)), (1, .int k)]) [0, 1] rfl ?_
  refine z_iconst X (v := nI 0) dX4_first_0 (by decide) ?_
  refine z_istore_n X (lv' := [(2, .int (nI 0)), (0, .ref (ad 0)), (1, .int k)]) dX4_first_1 rfl (by decide) rfl ?_
  refine z_lv (lv' := [(0, .ref (ad 0)), (1, .int k), (2, .int (nI 0))]) [1, 2, 0] rfl ?_
  have lp2 : ∀ (fu2 : Nat) (i : Nat), (i ≤ cn 5) → (scanF (fun b => decide (firstP cn u w k b)) (cn 5 - i) i = scanF (fun b => decide (firstP cn u w k b)) (cn 5) 0) → cn 5 + 1 ≤ i + fu2 → Z G B 3 ad (MF cy ad cn u w x) p l e ({ frames := 3, cells := 0, slots := 0, locals := 72 } : Room) s m args below meth c (zEnd G B ad (MF cy ad cn u w x) below args s ({ frames := 3, cells := 0, slots := 0, locals := 72 } : Room) (fun v ad' f' => v = some (.int (if scanF (fun b => decide (firstP cn u w k b)) (cn 5) 0 < cn 5 then nI (scanF (fun b => decide (firstP cn u w k b)) (cn 5) 0) else -1)) ∧ ad = ad' ∧ (if scanF (fun b => decide (firstP cn u w k b)) (cn 5) 0 < cn 5 then MF cy ad cn (va_up u 6 (upd (u 6) (scanF (fun b => decide (firstP cn u w k b)) (cn 5) 0) (nI 2))) w x else MF cy ad cn u w x) = f')) ad (MF cy ad cn u w x) 0 0 2 [(0, .ref (ad 0)), (1, .int k), (2, .int (nI i))] [] := by
    intro fu2
    induction fu2 with
    | zero => intro i hi hs hm2; exact absurd hm2 (by omega)
    | succ fu2 ih2 =>
      intro i hi hs hm2
      refine z_iload_n X 2 dX4_first_2 rfl rfl ?_
      refine z_aload_n X 0 dX4_first_3 rfl rfl ?_
      refine z_get X (v := .int (nI (cn 5))) 0 5 wa_X4 rfl rfl rfl (by decide) q_564 rfl rfl dX4_first_4 ?_
      refine z_icmp_geN X (tgt := 44) (by omega) (by omega) dX4_first_7 (by decide) (fun c7 => ?_) (fun c7 => ?_)
      · refine z_iconst X (v := -1) dX4_first_44 (by decide) ?_
        refine z_iret X (Nat.le_of_ble_eq_true rfl) (Nat.le_of_ble_eq_true rfl) ?_ dX4_first_45
        have h9 : scanF (fun b => decide (firstP cn u w k b)) (cn 5) 0 = i := by rw [← hs, show cn 5 - i = 0 by omega]; rfl
        exact ⟨by rw [h9, if_neg (by omega)], rfl, by rw [h9, if_neg (by omega)]⟩
      · refine z_aload_n X 0 dX4_first_10 rfl rfl ?_
        refine z_get X (v := .ref (ad 6)) 0 6 wa_X4 rfl rfl rfl (by decide) q_565 rfl rfl dX4_first_11 ?_
        refine z_iload_n X 2 dX4_first_14 rfl rfl ?_
        refine z_ialdN X (n := 12) (g := u 6) 6 rfl rfl (by omega) (by decide) dX4_first_15 ?_
        refine z_iconst X (v := nI 1) dX4_first_16 (by decide) ?_
        refine z_icmp_ne X (tgt := 38) dX4_first_17 (by decide) (fun c17 => ?_) (fun c17 => ?_)
        · refine z_iincN X 2 (k := 1) (lv' := [(2, .int (nI (i + 1))), (0, .ref (ad 0)), (1, .int k)]) dX4_first_38 rfl (by decide) (by decide) rfl ?_
          refine z_goto X (tgt := 2) dX4_first_41 (by decide) ?_
          refine z_lv (lv' := [(0, .ref (ad 0)), (1, .int k), (2, .int (nI (i + 1)))]) [1, 2, 0] rfl ?_
          exact ih2 (i + 1) (by omega) (by rw [← hs]; exact scanF_n c7 (decide_eq_false (fun h => c17 h.1))) (by omega)
        · refine z_aload_n X 0 dX4_first_20 rfl rfl ?_
          refine z_iload_n X 2 dX4_first_21 rfl rfl ?_
          refine z_callV X (n := 1) (As := [.int (nI i)]) (rest := []) 0 rfl rfl rfl (m_mainOf l G cy B ad cn u w x hc0 i (by omega)) q_739 q_740 q_18 q_29 q_741 (by decide +kernel) ⟨Nat.le_of_ble_eq_true rfl, Nat.le_of_ble_eq_true rfl⟩ rfl rfl (Nat.le_of_ble_eq_true rfl) dX4_first_22 ⟨Nat.le_of_ble_eq_true rfl, Nat.le_of_ble_eq_true rfl⟩ (fun v ad' f' hp had => ?_)
          obtain ⟨rfl, rfl, rfl⟩ := hp
          refine z_st (st' := [.int (nI (mainM cn u w i))]) rfl ?_
          refine z_iload_n X 1 dX4_first_25 rfl rfl ?_
          refine z_icmp_ne X (tgt := 38) dX4_first_26 (by decide) (fun c26 => ?_) (fun c26 => ?_)
          · refine z_iincN X 2 (k := 1) (lv' := [(2, .int (nI (i + 1))), (0, .ref (ad 0)), (1, .int k)]) dX4_first_38 rfl (by decide) (by decide) rfl ?_
            refine z_goto X (tgt := 2) dX4_first_41 (by decide) ?_
            refine z_lv (lv' := [(0, .ref (ad 0)), (1, .int k), (2, .int (nI (i + 1)))]) [1, 2, 0] rfl ?_
            exact ih2 (i + 1) (by omega) (by rw [← hs]; exact scanF_n c7 (decide_eq_false (fun h => c26 h.2))) (by omega)
          · refine z_aload_n X 0 dX4_first_29 rfl rfl ?_
            refine z_get X (v := .ref (ad 6)) 0 6 wa_X4 rfl rfl rfl (by decide) q_565 rfl rfl dX4_first_30 ?_
            refine z_iload_n X 2 dX4_first_33 rfl rfl ?_
            refine z_iconst X (v := nI 2) dX4_first_34 (by decide) ?_
            refine z_iastN X (n := 12) (g := u 6) 6 rfl rfl (by omega) (by decide) dX4_first_35 ?_
            refine z_f (MF_u 6 12 rfl (by decide) _) ?_
            refine z_iload_n X 2 dX4_first_36 rfl rfl ?_
            refine z_iret X (Nat.le_of_ble_eq_true rfl) (Nat.le_of_ble_eq_true rfl) ?_ dX4_first_37
            have h9 : scanF (fun b => decide (firstP cn u w k b)) (cn 5) 0 = i := by rw [← hs]; exact scanF_y c7 (decide_eq_true ⟨c17, c26⟩)
            exact ⟨by rw [h9, if_pos c7], rfl, by rw [h9, if_pos c7]⟩
  exact lp2 (cn 5 + 1) 0 (by omega) (by rfl) (by omega)
set_option maxHeartbeats 4000000 in
set_option maxRecDepth 100000 in
theorem m_lorry (l : Launch) (G : va_G) (cy : Nat → ClassId) (B : Nat) (ad : Nat → Nat) (cn : Nat → Nat) (u : Nat → Nat → Int32) (w : Nat → Nat → Int64) (x : Nat → Nat → UInt64) (hc21 : cn 21 ≤ 3) (a b : Int64) : Ct l G cy B yX4_lorry cX4_lorry 5 (some .int) ({ frames := 1, cells := 0, slots := 0, locals := 25 } : Room) ad (MF cy ad cn u w x) [.ref (ad 0), .long a, .long b] (fun v ad' f' => v = some (.int (if okLorryM cn a b then nI (cn 21) else -1)) ∧ ad = ad' ∧ (if okLorryM cn a b then MF cy ad (va_up cn 21 (cn 21 + 1)) u (va_up (va_up w 22 (vp_updL (w 22) (cn 21) a)) 23 (vp_updL (w 23) (cn 21) b)) x else MF cy ad cn u w x) = f') := by
  refine ct_of (by decide +kernel) (Nat.le_of_ble_eq_true rfl) ?_
  intro p e s m args below meth c X hnm
  refine z_lv (lv' := [(0, .ref (ad 0)), (1, .long a), (3, .long b)]) [0, 1, 2] rfl ?_
  refine z_aload_n X 0 dX4_lorry_0 rfl rfl ?_
  refine z_get X (v := .int (nI (cn 21))) 0 21 wa_X4 rfl rfl rfl (by decide) q_580 rfl rfl dX4_lorry_1 ?_
  refine z_iconst X (v := nI 3) dX4_lorry_4 (by decide) ?_
  refine z_icmp_eqN X (tgt := 30) (by omega) (by omega) dX4_lorry_5 (by decide) (fun c5 => ?_) (fun c5 => ?_)
  · refine z_iconst X (v := -1) dX4_lorry_30 (by decide) ?_
    refine z_iret X (Nat.le_of_ble_eq_true rfl) (Nat.le_of_ble_eq_true rfl) ?_ dX4_lorry_31
    have h9 : ¬ okLorryM cn a b := fun h9 => h9.1 c5
    exact ⟨by rw [if_neg h9], rfl, by rw [if_neg h9]⟩
  · refine z_lload_n X 1 dX4_lorry_8 rfl rfl ?_
    refine z_lconst X (v := 0) dX4_lorry_9 rfl ?_
    refine z_ldc2 X dX4_lorry_10 q_753 ?_
    refine z_callS X (n := 3) (As := [.long a, .long 0, .long 100000000]) (rest := []) (c_X4_isIn l G cy B ad (MF cy ad cn u w x) a 0 100000000) q_652 q_653 q_29 q_654 (by decide +kernel) ⟨Nat.le_of_ble_eq_true rfl, Nat.le_of_ble_eq_true rfl⟩ rfl rfl (Nat.le_of_ble_eq_true rfl) dX4_lorry_13 ⟨Nat.le_of_ble_eq_true rfl, Nat.le_of_ble_eq_true rfl⟩ (fun v ad' f' hp had => ?_)
    obtain ⟨rfl, rfl, rfl⟩ := hp
    refine z_st (st' := [.int (nI (if 0 ≤ a ∧ a ≤ 100000000 then 1 else 0))]) rfl ?_
    refine z_if_eqB X (tgt := 30) dX4_lorry_16 (by decide) (fun c16 => ?_) (fun c16 => ?_)
    · refine z_iconst X (v := -1) dX4_lorry_30 (by decide) ?_
      refine z_iret X (Nat.le_of_ble_eq_true rfl) (Nat.le_of_ble_eq_true rfl) ?_ dX4_lorry_31
      have h9 : ¬ okLorryM cn a b := fun h9 => c16 h9.2.1
      exact ⟨by rw [if_neg h9], rfl, by rw [if_neg h9]⟩
    · refine z_lload_n X 2 dX4_lorry_19 rfl rfl ?_
      refine z_lconst X (v := 0) dX4_lorry_20 rfl ?_
      refine z_ldc2 X dX4_lorry_21 q_753 ?_
      refine z_callS X (n := 3) (As := [.long b, .long 0, .long 100000000]) (rest := []) (c_X4_isIn l G cy B ad (MF cy ad cn u w x) b 0 100000000) q_652 q_653 q_29 q_654 (by decide +kernel) ⟨Nat.le_of_ble_eq_true rfl, Nat.le_of_ble_eq_true rfl⟩ rfl rfl (Nat.le_of_ble_eq_true rfl) dX4_lorry_24 ⟨Nat.le_of_ble_eq_true rfl, Nat.le_of_ble_eq_true rfl⟩ (fun v ad' f' hp had => ?_)
      obtain ⟨rfl, rfl, rfl⟩ := hp
      refine z_st (st' := [.int (nI (if 0 ≤ b ∧ b ≤ 100000000 then 1 else 0))]) rfl ?_
      refine z_if_neB X (tgt := 32) dX4_lorry_27 (by decide) (fun c27 => ?_) (fun c27 => ?_)
      · refine z_aload_n X 0 dX4_lorry_32 rfl rfl ?_
        refine z_get X (v := .ref (ad 22)) 0 22 wa_X4 rfl rfl rfl (by decide) q_581 rfl rfl dX4_lorry_33 ?_
        refine z_aload_n X 0 dX4_lorry_36 rfl rfl ?_
        refine z_get X (v := .int (nI (cn 21))) 0 21 wa_X4 rfl rfl rfl (by decide) q_580 rfl rfl dX4_lorry_37 ?_
        refine z_lload_n X 1 dX4_lorry_40 rfl rfl ?_
        refine z_lastN X (n := 3) (g := w 22) 22 rfl rfl (by omega) (by decide) dX4_lorry_41 ?_
        refine z_f (MF_w 22 3 rfl (by decide) _) ?_
        refine z_aload_n X 0 dX4_lorry_42 rfl rfl ?_
        refine z_get X (v := .ref (ad 23)) 0 23 wa_X4 rfl rfl rfl (by decide) q_582 rfl rfl dX4_lorry_43 ?_
        refine z_aload_n X 0 dX4_lorry_46 rfl rfl ?_
        refine z_get X (v := .int (nI (cn 21))) 0 21 wa_X4 rfl rfl rfl (by decide) q_580 rfl rfl dX4_lorry_47 ?_
        refine z_lload_n X 2 dX4_lorry_50 rfl rfl ?_
        refine z_lastN X (n := 3) (g := w 23) 23 rfl rfl (by omega) (by decide) dX4_lorry_51 ?_
        refine z_f (MF_w 23 3 rfl (by decide) _) ?_
        refine z_aload_n X 0 dX4_lorry_52 rfl rfl ?_
        refine z_dup X dX4_lorry_53 rfl ?_
        refine z_get X (v := .int (nI (cn 21))) 0 21 wa_X4 rfl rfl rfl (by decide) q_580 rfl rfl dX4_lorry_54 ?_
        refine z_iconst X (v := nI 1) dX4_lorry_57 (by decide) ?_
        refine z_iaddN X dX4_lorry_58 ?_
        refine z_put X (ty := .int) 0 21 wa_X4 tyX4 tyX4_ok nmX4 rfl rfl rfl (by decide) q_580 rfl rfl (by decide +kernel) rfl rfl (Nat.le_of_ble_eq_true rfl) dX4_lorry_59 ?_
        refine z_f (MF_c (cn' := va_up cn 21 ((cn 21) + 1)) rfl) ?_
        refine z_aload_n X 0 dX4_lorry_62 rfl rfl ?_
        refine z_get X (v := .int (nI ((cn 21) + 1))) 0 21 wa_X4 rfl rfl rfl (by decide) q_580 rfl rfl dX4_lorry_63 ?_
        refine z_iconst X (v := nI 1) dX4_lorry_66 (by decide) ?_
        refine z_isubN X (by omega) dX4_lorry_67 ?_
        refine z_top (v' := .int (nI (cn 21))) (by rfl) ?_
        refine z_iret X (Nat.le_of_ble_eq_true rfl) (Nat.le_of_ble_eq_true rfl) ?_ dX4_lorry_68
        have h9 : okLorryM cn a b := ⟨c5, c16, c27⟩
        exact ⟨by rw [if_pos h9], rfl, by rw [if_pos h9]⟩
      · refine z_iconst X (v := -1) dX4_lorry_30 (by decide) ?_
        refine z_iret X (Nat.le_of_ble_eq_true rfl) (Nat.le_of_ble_eq_true rfl) ?_ dX4_lorry_31
        have h9 : ¬ okLorryM cn a b := fun h9 => c27 h9.2.2
        exact ⟨by rw [if_neg h9], rfl, by rw [if_neg h9]⟩
set_option maxHeartbeats 4000000 in
set_option maxRecDepth 100000 in
theorem m_loadOf_0 (l : Launch) (G : va_G) (cy : Nat → ClassId) (B : Nat) (ad : Nat → Nat) (cn : Nat → Nat) (u : Nat → Nat → Int32) (w : Nat → Nat → Int64) (x : Nat → Nat → UInt64) (hc0 : cn 0 ≤ 200) (li ct : Nat) (hli : li < 3) (hct : u 25 li = nI ct) (hc8 : ct ≤ 8) (hld : ∀ i, i < ct → ∃ b9, b9 < 12 ∧ u 24 (8 * li + i) = nI b9) : Ct l G cy B yX4_loadOf cX4_loadOf 6 (some .long) ({ frames := 3, cells := 0, slots := 0, locals := 73 } : Room) ad (MF cy ad cn u w x) [.ref (ad 0), .int (nI li), .int (nI 0)] (fun v ad' f' => v = some (.long (loadM cn u w li 0 ct)) ∧ ad = ad' ∧ MF cy ad cn u w x = f') := by
  refine ct_of (by decide +kernel) (Nat.le_of_ble_eq_true rfl) ?_
  intro p e s m args below meth c X hnm
  refine z_lv (lv' := [(0, .ref (ad 0)), (1, .int (nI li)), (2, .int (nI 0))]) [0, 1, 2] rfl ?_
  refine z_lconst X (v := 0) dX4_loadOf_0 rfl ?_
  refine z_lstore_n X (lv' := [(3, .long 0), (0, .ref (ad 0)), (1, .int (nI li)), (2, .int (nI 0))]) dX4_loadOf_1 rfl (by decide) rfl ?_
  refine z_iconst X (v := nI 0) dX4_loadOf_2 (by decide) ?_
  refine z_istore X (lv' := [(5, .int (nI 0)), (3, .long 0), (0, .ref (ad 0)), (1, .int (nI li)), (2, .int (nI 0))]) dX4_loadOf_3 (by decide) rfl ?_
  refine z_lv (lv' := [(0, .ref (ad 0)), (1, .int (nI li)), (2, .int (nI 0)), (3, .long 0), (5, .int (nI 0))]) [2, 3, 4, 1, 0] rfl ?_
  have lp5 : ∀ (fu5 : Nat) (i : Nat) (sv : Int64), (i ≤ ct) → (sv = loadM cn u w li 0 i) → ct + 1 ≤ i + fu5 → Z G B 6 ad (MF cy ad cn u w x) p l e ({ frames := 3, cells := 0, slots := 0, locals := 73 } : Room) s m args below meth c (zEnd G B ad (MF cy ad cn u w x) below args s ({ frames := 3, cells := 0, slots := 0, locals := 73 } : Room) (fun v ad' f' => v = some (.long (loadM cn u w li 0 ct)) ∧ ad = ad' ∧ MF cy ad cn u w x = f')) ad (MF cy ad cn u w x) 0 0 5 [(0, .ref (ad 0)), (1, .int (nI li)), (2, .int (nI 0)), (3, .long sv), (5, .int (nI i))] [] := by
    intro fu5
    induction fu5 with
    | zero => intro i sv hi hs hm5; exact absurd hm5 (by omega)
    | succ fu5 ih5 =>
      intro i sv hi hs hm5
      refine z_iload X 4 dX4_loadOf_5 rfl ?_
      refine z_aload_n X 0 dX4_loadOf_7 rfl rfl ?_
      refine z_get X (v := .ref (ad 25)) 0 25 wa_X4 rfl rfl rfl (by decide) q_584 rfl rfl dX4_loadOf_8 ?_
      refine z_iload_n X 1 dX4_loadOf_11 rfl rfl ?_
      refine z_ialdN X (n := 3) (g := u 25) 25 rfl rfl (by omega) (by decide) dX4_loadOf_12 ?_
      refine z_top (v' := .int (nI ct)) (by rw [hct]) ?_
      refine z_icmp_geN X (tgt := 55) (by omega) (by omega) dX4_loadOf_13 (by decide) (fun c13 => ?_) (fun c13 => ?_)
      · have e9 : i = ct := by omega
        rw [e9] at hs
        refine z_lload_n X 3 dX4_loadOf_55 rfl rfl ?_
        refine z_lret X (Nat.le_of_ble_eq_true rfl) (Nat.le_of_ble_eq_true rfl) ?_ dX4_loadOf_56
        exact ⟨by rw [hs], rfl, rfl⟩
      · obtain ⟨b9, hb9, e9⟩ := hld i (by omega)
        refine z_lload_n X 3 dX4_loadOf_16 rfl rfl ?_
        refine z_aload_n X 0 dX4_loadOf_17 rfl rfl ?_
        refine z_aload_n X 0 dX4_loadOf_18 rfl rfl ?_
        refine z_get X (v := .ref (ad 24)) 0 24 wa_X4 rfl rfl rfl (by decide) q_583 rfl rfl dX4_loadOf_19 ?_
        refine z_bipush X (v := nI 8) dX4_loadOf_22 (by decide) ?_
        refine z_iload_n X 1 dX4_loadOf_24 rfl rfl ?_
        refine z_imulN X dX4_loadOf_25 ?_
        refine z_iload X 4 dX4_loadOf_26 rfl ?_
        refine z_iaddN X dX4_loadOf_28 ?_
        refine z_ialdN X (n := 24) (g := u 24) 24 rfl rfl (by omega) (by decide) dX4_loadOf_29 ?_
        refine z_top (v' := .int (nI b9)) (by rw [e9]) ?_
        refine z_callV X (n := 1) (As := [.int (nI b9)]) (rest := [.long sv]) 0 rfl rfl rfl (m_weight l G cy B ad cn u w x hc0 b9 hb9) q_686 q_687 q_17 q_29 q_688 (by decide +kernel) ⟨Nat.le_of_ble_eq_true rfl, Nat.le_of_ble_eq_true rfl⟩ rfl rfl (Nat.le_of_ble_eq_true rfl) dX4_loadOf_30 ⟨Nat.le_of_ble_eq_true rfl, Nat.le_of_ble_eq_true rfl⟩ (fun v ad' f' hp had => ?_)
        obtain ⟨rfl, rfl, rfl⟩ := hp
        refine z_st (st' := [.long (weightM cn u w b9), .long sv]) rfl ?_
        refine z_iload_n X 2 dX4_loadOf_33 rfl rfl ?_
        refine z_if_eqN X (tgt := 44) (by omega) dX4_loadOf_34 (by decide) (fun c34 => ?_) (fun c34 => by exfalso; omega)
        refine z_iconst X (v := nI 1) dX4_loadOf_44 (by decide) ?_
        refine z_i2lN X (by omega) dX4_loadOf_45 ?_
        refine z_lmul X dX4_loadOf_46 ?_
        refine z_ladd X dX4_loadOf_47 ?_
        refine z_lstore_n X (lv' := [(3, .long (sv + ((weightM cn u w b9) * (lN 1)))), (0, .ref (ad 0)), (1, .int (nI li)), (2, .int (nI 0)), (5, .int (nI i))]) dX4_loadOf_48 rfl (by decide) rfl ?_
        refine z_iincN X 4 (k := 1) (lv' := [(5, .int (nI (i + 1))), (3, .long (sv + ((weightM cn u w b9) * (lN 1)))), (0, .ref (ad 0)), (1, .int (nI li)), (2, .int (nI 0))]) dX4_loadOf_49 rfl (by decide) (by decide) rfl ?_
        refine z_goto X (tgt := 5) dX4_loadOf_52 (by decide) ?_
        refine z_lv (lv' := [(0, .ref (ad 0)), (1, .int (nI li)), (2, .int (nI 0)), (3, .long (sv + ((weightM cn u w b9) * (lN 1)))), (5, .int (nI (i + 1)))]) [2, 3, 4, 1, 0] rfl ?_
        exact ih5 (i + 1) (sv + ((weightM cn u w b9) * (lN 1))) (by omega) (by rw [hs, ← show (u 24 (8 * li + i)).toNatClampNeg = b9 from by rw [e9]; exact nI_clamp (by omega)]; rfl) (by omega)
  exact lp5 (ct + 1) 0 0 (by omega) (by rfl) (by omega)
set_option maxHeartbeats 4000000 in
set_option maxRecDepth 100000 in
theorem m_loadOf_1 (l : Launch) (G : va_G) (cy : Nat → ClassId) (B : Nat) (ad : Nat → Nat) (cn : Nat → Nat) (u : Nat → Nat → Int32) (w : Nat → Nat → Int64) (x : Nat → Nat → UInt64) (hc0 : cn 0 ≤ 200) (li ct : Nat) (hli : li < 3) (hct : u 25 li = nI ct) (hc8 : ct ≤ 8) (hld : ∀ i, i < ct → ∃ b9, b9 < 12 ∧ u 24 (8 * li + i) = nI b9) : Ct l G cy B yX4_loadOf cX4_loadOf 6 (some .long) ({ frames := 3, cells := 0, slots := 0, locals := 73 } : Room) ad (MF cy ad cn u w x) [.ref (ad 0), .int (nI li), .int (nI 1)] (fun v ad' f' => v = some (.long (loadM cn u w li 1 ct)) ∧ ad = ad' ∧ MF cy ad cn u w x = f') := by
  refine ct_of (by decide +kernel) (Nat.le_of_ble_eq_true rfl) ?_
  intro p e s m args below meth c X hnm
  refine z_lv (lv' := [(0, .ref (ad 0)), (1, .int (nI li)), (2, .int (nI 1))]) [0, 1, 2] rfl ?_
  refine z_lconst X (v := 0) dX4_loadOf_0 rfl ?_
  refine z_lstore_n X (lv' := [(3, .long 0), (0, .ref (ad 0)), (1, .int (nI li)), (2, .int (nI 1))]) dX4_loadOf_1 rfl (by decide) rfl ?_
  refine z_iconst X (v := nI 0) dX4_loadOf_2 (by decide) ?_
  refine z_istore X (lv' := [(5, .int (nI 0)), (3, .long 0), (0, .ref (ad 0)), (1, .int (nI li)), (2, .int (nI 1))]) dX4_loadOf_3 (by decide) rfl ?_
  refine z_lv (lv' := [(0, .ref (ad 0)), (1, .int (nI li)), (2, .int (nI 1)), (3, .long 0), (5, .int (nI 0))]) [2, 3, 4, 1, 0] rfl ?_
  have lp5 : ∀ (fu5 : Nat) (i : Nat) (sv : Int64), (i ≤ ct) → (sv = loadM cn u w li 1 i) → ct + 1 ≤ i + fu5 → Z G B 6 ad (MF cy ad cn u w x) p l e ({ frames := 3, cells := 0, slots := 0, locals := 73 } : Room) s m args below meth c (zEnd G B ad (MF cy ad cn u w x) below args s ({ frames := 3, cells := 0, slots := 0, locals := 73 } : Room) (fun v ad' f' => v = some (.long (loadM cn u w li 1 ct)) ∧ ad = ad' ∧ MF cy ad cn u w x = f')) ad (MF cy ad cn u w x) 0 0 5 [(0, .ref (ad 0)), (1, .int (nI li)), (2, .int (nI 1)), (3, .long sv), (5, .int (nI i))] [] := by
    intro fu5
    induction fu5 with
    | zero => intro i sv hi hs hm5; exact absurd hm5 (by omega)
    | succ fu5 ih5 =>
      intro i sv hi hs hm5
      refine z_iload X 4 dX4_loadOf_5 rfl ?_
      refine z_aload_n X 0 dX4_loadOf_7 rfl rfl ?_
      refine z_get X (v := .ref (ad 25)) 0 25 wa_X4 rfl rfl rfl (by decide) q_584 rfl rfl dX4_loadOf_8 ?_
      refine z_iload_n X 1 dX4_loadOf_11 rfl rfl ?_
      refine z_ialdN X (n := 3) (g := u 25) 25 rfl rfl (by omega) (by decide) dX4_loadOf_12 ?_
      refine z_top (v' := .int (nI ct)) (by rw [hct]) ?_
      refine z_icmp_geN X (tgt := 55) (by omega) (by omega) dX4_loadOf_13 (by decide) (fun c13 => ?_) (fun c13 => ?_)
      · have e9 : i = ct := by omega
        rw [e9] at hs
        refine z_lload_n X 3 dX4_loadOf_55 rfl rfl ?_
        refine z_lret X (Nat.le_of_ble_eq_true rfl) (Nat.le_of_ble_eq_true rfl) ?_ dX4_loadOf_56
        exact ⟨by rw [hs], rfl, rfl⟩
      · obtain ⟨b9, hb9, e9⟩ := hld i (by omega)
        refine z_lload_n X 3 dX4_loadOf_16 rfl rfl ?_
        refine z_aload_n X 0 dX4_loadOf_17 rfl rfl ?_
        refine z_aload_n X 0 dX4_loadOf_18 rfl rfl ?_
        refine z_get X (v := .ref (ad 24)) 0 24 wa_X4 rfl rfl rfl (by decide) q_583 rfl rfl dX4_loadOf_19 ?_
        refine z_bipush X (v := nI 8) dX4_loadOf_22 (by decide) ?_
        refine z_iload_n X 1 dX4_loadOf_24 rfl rfl ?_
        refine z_imulN X dX4_loadOf_25 ?_
        refine z_iload X 4 dX4_loadOf_26 rfl ?_
        refine z_iaddN X dX4_loadOf_28 ?_
        refine z_ialdN X (n := 24) (g := u 24) 24 rfl rfl (by omega) (by decide) dX4_loadOf_29 ?_
        refine z_top (v' := .int (nI b9)) (by rw [e9]) ?_
        refine z_callV X (n := 1) (As := [.int (nI b9)]) (rest := [.long sv]) 0 rfl rfl rfl (m_weight l G cy B ad cn u w x hc0 b9 hb9) q_686 q_687 q_17 q_29 q_688 (by decide +kernel) ⟨Nat.le_of_ble_eq_true rfl, Nat.le_of_ble_eq_true rfl⟩ rfl rfl (Nat.le_of_ble_eq_true rfl) dX4_loadOf_30 ⟨Nat.le_of_ble_eq_true rfl, Nat.le_of_ble_eq_true rfl⟩ (fun v ad' f' hp had => ?_)
        obtain ⟨rfl, rfl, rfl⟩ := hp
        refine z_st (st' := [.long (weightM cn u w b9), .long sv]) rfl ?_
        refine z_iload_n X 2 dX4_loadOf_33 rfl rfl ?_
        refine z_if_eqN X (tgt := 44) (by omega) dX4_loadOf_34 (by decide) (fun c34 => by exfalso; omega) (fun c34 => ?_)
        refine z_iload X 4 dX4_loadOf_37 rfl ?_
        refine z_iconst X (v := nI 1) dX4_loadOf_39 (by decide) ?_
        refine z_iaddN X dX4_loadOf_40 ?_
        refine z_goto X (tgt := 45) dX4_loadOf_41 (by decide) ?_
        refine z_i2lN X (by omega) dX4_loadOf_45 ?_
        refine z_lmul X dX4_loadOf_46 ?_
        refine z_ladd X dX4_loadOf_47 ?_
        refine z_lstore_n X (lv' := [(3, .long (sv + ((weightM cn u w b9) * (lN (i + 1))))), (0, .ref (ad 0)), (1, .int (nI li)), (2, .int (nI 1)), (5, .int (nI i))]) dX4_loadOf_48 rfl (by decide) rfl ?_
        refine z_iincN X 4 (k := 1) (lv' := [(5, .int (nI (i + 1))), (3, .long (sv + ((weightM cn u w b9) * (lN (i + 1))))), (0, .ref (ad 0)), (1, .int (nI li)), (2, .int (nI 1))]) dX4_loadOf_49 rfl (by decide) (by decide) rfl ?_
        refine z_goto X (tgt := 5) dX4_loadOf_52 (by decide) ?_
        refine z_lv (lv' := [(0, .ref (ad 0)), (1, .int (nI li)), (2, .int (nI 1)), (3, .long (sv + ((weightM cn u w b9) * (lN (i + 1))))), (5, .int (nI (i + 1)))]) [2, 3, 4, 1, 0] rfl ?_
        exact ih5 (i + 1) (sv + ((weightM cn u w b9) * (lN (i + 1)))) (by omega) (by rw [hs, ← show (u 24 (8 * li + i)).toNatClampNeg = b9 from by rw [e9]; exact nI_clamp (by omega)]; rfl) (by omega)
  exact lp5 (ct + 1) 0 0 (by omega) (by rfl) (by omega)
