/-! THE CLASS'S WORLD. Codes: 0 the press, 1 .. 15 its arrays, 16 and 17 the text; i + 100 bale i, i + 200 its grams, i + 300 stack i, i + 400 lorry i. cn: counters (by the object's fields; 16 the text's length; 30, 31, 32 how many bales, stacks, lorries there are) -/
abbrev cObj (ad cn : Nat → Nat) (uj : Nat → Int32) : List Value := [.ref (ad 1), .ref (ad 2), .ref (ad 3), .int (nI (cn 3)), .int (nI (cn 4)), .ref (ad 6), .int (nI (cn 6)), .ref (ad 8), .ref (ad 9), .int (nI (cn 9)), .int (uj 10), .ref (ad 12), .int (nI (cn 12)), .ref (ad 14), .int (nI (cn 14)), .ref (ad 16)]
abbrev bObj (ad : Nat → Nat) (uj : Nat → Int32) (xj : Nat → UInt64) (rj : Nat → Option Nat) (j : Nat) : List Value := [.ref (ad (j + 100)), .double (xj 1), .int (uj 2), .int (uj 3), .int (uj 4), .int (uj 5), .int (uj 6), va_rf (rj 7), va_rf (rj 8)]
abbrev tObj (ad cn : Nat → Nat) (uj : Nat → Int32) : List Value := [.ref (ad 17), .int (uj 1), .int (uj 2), .int (nI (cn 16))]
abbrev sObj (uj : Nat → Int32) : List Value := [.int (uj 0), .int (uj 1)]
abbrev lObj (uj : Nat → Int32) (wj : Nat → Int64) : List Value := [.long (wj 0), .long (wj 1), .long (wj 2), .long (wj 3), .int (uj 4)]
def cBase (cy : Nat → ClassId) (ad cn : Nat → Nat) (uj : Nat → Int32) (wj : Nat → Int64) (xj : Nat → UInt64) (rj : Nat → Option Nat) : Nat → Option va_E
  | 0 => some (.inr (4, cObj ad cn uj))
  | 1 => some (.inl (cy 0, 200, .inr (.inl wj)))
  | 2 => some (.inl (cy 1, 200, .inl uj))
  | 3 => some (.inl (cy 0, 200, .inr (.inl wj)))
  | 6 => some (.inl (cy 4, 12, .inr (.inr (.inr (.inr rj)))))
  | 8 => some (.inl (cy 2, 6, .inr (.inr (.inr (.inl xj)))))
  | 9 => some (.inl (cy 2, 6, .inr (.inr (.inr (.inl xj)))))
  | 12 => some (.inl (cy 6, 4, .inr (.inr (.inr (.inr rj)))))
  | 14 => some (.inl (cy 5, 3, .inr (.inr (.inr (.inr rj)))))
  | 16 => some (.inr (0, tObj ad cn uj))
  | 17 => some (.inl (cy 3, 16, .inl uj))
  | _ => none
def cAt (cy : Nat → ClassId) (ad cn : Nat → Nat) (uj : Nat → Int32) (wj : Nat → Int64) (xj : Nat → UInt64) (rj : Nat → Option Nat) (j : Nat) : Option va_E :=
  if j < 100 then cBase cy ad cn uj wj xj rj j
  else if j < 200 then (if j < cn 30 + 100 then some (.inr (1, bObj ad uj xj rj j)) else none)
  else if j < 300 then (if j < cn 30 + 200 then some (.inl (cy 0, 4, .inr (.inl wj))) else none)
  else if j < 400 then (if j < cn 31 + 300 then some (.inr (3, sObj uj)) else none)
  else if j < 500 then (if j < cn 32 + 400 then some (.inr (2, lObj uj wj)) else none) else none
def CF (cy : Nat → ClassId) (ad cn : Nat → Nat) (u : Nat → Nat → Int32) (w : Nat → Nat → Int64) (x : Nat → Nat → UInt64) (r : Nat → Nat → Option Nat) : zW := fun j => cAt cy ad cn (u j) (w j) (x j) (r j) j
section CWL
variable {cy : Nat → ClassId} {ad cn : Nat → Nat} {u : Nat → Nat → Int32} {w : Nat → Nat → Int64} {x : Nat → Nat → UInt64} {r : Nat → Nat → Option Nat} {i k : Nat}
theorem cAt_b {uj : Nat → Int32} {wj : Nat → Int64} {xj : Nat → UInt64} {rj : Nat → Option Nat} (hi : i < cn 30) (hp : cn 30 ≤ 12) : cAt cy ad cn uj wj xj rj (i + 100) = some (.inr (1, bObj ad uj xj rj (i + 100))) := by
  rw [cAt, if_neg (by omega), if_pos (by omega), if_pos (by omega)]
theorem cAt_g {uj : Nat → Int32} {wj : Nat → Int64} {xj : Nat → UInt64} {rj : Nat → Option Nat} (hi : i < cn 30) (hp : cn 30 ≤ 12) : cAt cy ad cn uj wj xj rj (i + 200) = some (.inl (cy 0, 4, .inr (.inl wj))) := by
  rw [cAt, if_neg (by omega), if_neg (by omega), if_pos (by omega), if_pos (by omega)]
theorem cAt_s {uj : Nat → Int32} {wj : Nat → Int64} {xj : Nat → UInt64} {rj : Nat → Option Nat} (hi : i < cn 31) (hp : cn 31 ≤ 4) : cAt cy ad cn uj wj xj rj (i + 300) = some (.inr (3, sObj uj)) := by
  rw [cAt, if_neg (by omega), if_neg (by omega), if_neg (by omega), if_pos (by omega), if_pos (by omega)]
theorem cAt_l {uj : Nat → Int32} {wj : Nat → Int64} {xj : Nat → UInt64} {rj : Nat → Option Nat} (hi : i < cn 32) (hp : cn 32 ≤ 3) : cAt cy ad cn uj wj xj rj (i + 400) = some (.inr (2, lObj uj wj)) := by
  rw [cAt, if_neg (by omega), if_neg (by omega), if_neg (by omega), if_neg (by omega), if_pos (by omega), if_pos (by omega)]
theorem CF_b (hi : i < cn 30) (hp : cn 30 ≤ 12) : CF cy ad cn u w x r (i + 100) = some (.inr (1, bObj ad (u (i + 100)) (x (i + 100)) (r (i + 100)) (i + 100))) := cAt_b hi hp
theorem CF_g (hi : i < cn 30) (hp : cn 30 ≤ 12) : CF cy ad cn u w x r (i + 200) = some (.inl (cy 0, 4, .inr (.inl (w (i + 200))))) := cAt_g hi hp
theorem CF_s (hi : i < cn 31) (hp : cn 31 ≤ 4) : CF cy ad cn u w x r (i + 300) = some (.inr (3, sObj (u (i + 300)))) := cAt_s hi hp
theorem CF_l (hi : i < cn 32) (hp : cn 32 ≤ 3) : CF cy ad cn u w x r (i + 400) = some (.inr (2, lObj (u (i + 400)) (w (i + 400)))) := cAt_l hi hp
theorem CF_u {y : va_E} (g : Nat → Int32) (h : cAt cy ad cn g (w k) (x k) (r k) k = some y) : zup (CF cy ad cn u w x r) k y = CF cy ad cn (va_up u k g) w x r := by
  funext j
  by_cases e : j = k
  · subst e
    rw [zup_same, CF]
    simp only [va_up, if_true]
    exact h.symm
  · rw [zup_ne e, CF, CF]
    simp only [va_up, e, if_false]
theorem CF_w {y : va_E} (g : Nat → Int64) (h : cAt cy ad cn (u k) g (x k) (r k) k = some y) : zup (CF cy ad cn u w x r) k y = CF cy ad cn u (va_up w k g) x r := by
  funext j
  by_cases e : j = k
  · subst e
    rw [zup_same, CF]
    simp only [va_up, if_true]
    exact h.symm
  · rw [zup_ne e, CF, CF]
    simp only [va_up, e, if_false]
theorem CF_x {y : va_E} (g : Nat → UInt64) (h : cAt cy ad cn (u k) (w k) g (r k) k = some y) : zup (CF cy ad cn u w x r) k y = CF cy ad cn u w (va_up x k g) r := by
  funext j
  by_cases e : j = k
  · subst e
    rw [zup_same, CF]
    simp only [va_up, if_true]
    exact h.symm
  · rw [zup_ne e, CF, CF]
    simp only [va_up, e, if_false]
theorem CF_r {y : va_E} (g : Nat → Option Nat) (h : cAt cy ad cn (u k) (w k) (x k) g k = some y) : zup (CF cy ad cn u w x r) k y = CF cy ad cn u w x (va_up r k g) := by
  funext j
  by_cases e : j = k
  · subst e
    rw [zup_same, CF]
    simp only [va_up, if_true]
    exact h.symm
  · rw [zup_ne e, CF, CF]
    simp only [va_up, e, if_false]
/-- a counter of the press, or of the text -/
theorem CF_c {cn' : Nat → Nat} {y : va_E} (k : Nat) (hk : k = 0 ∨ k = 16) (h30 : cn' 30 = cn 30) (h31 : cn' 31 = cn 31) (h32 : cn' 32 = cn 32) (h : cAt cy ad cn' (u k) (w k) (x k) (r k) k = some y) (ho : k = 0 → cn' 16 = cn 16) (ht : k = 16 → cn' 3 = cn 3 ∧ cn' 4 = cn 4 ∧ cn' 6 = cn 6 ∧ cn' 9 = cn 9 ∧ cn' 12 = cn 12 ∧ cn' 14 = cn 14) : zup (CF cy ad cn u w x r) k y = CF cy ad cn' u w x r := by
  funext j
  by_cases e : j = k
  · subst e
    rw [zup_same]
    exact h.symm
  · rw [zup_ne e, CF, CF, cAt, cAt, h30, h31, h32]
    by_cases hj : j < 100
    · rw [if_pos hj, if_pos hj]
      unfold cBase
      split
      · rcases hk with rfl | rfl
        · exact absurd rfl e
        · obtain ⟨q1, q2, q3, q4, q5, q6⟩ := ht rfl
          simp only [cObj, q1, q2, q3, q4, q5, q6]
      all_goals first | rfl | (rcases hk with rfl | rfl; (simp only [tObj, ho rfl]); exact absurd rfl e)
    · rw [if_neg hj, if_neg hj]
end CWL
theorem kd_in {k : Int32} (h : okKind k) : vp_in k 4 := by
  obtain ⟨j, hj, e⟩ := nI_of h.1
  subst e
  exact vp_in_nI ((nI_ltI hj (by decide)).mp (Int32.not_le.mp h.2)) (by decide)
theorem kd_of {k : Int32} (h : okKind k) : ∃ j : Nat, j < 4 ∧ k = nI j := by
  obtain ⟨j, hj, e⟩ := nI_of h.1
  subst e
  exact ⟨j, (nI_ltI hj (by decide)).mp (Int32.not_le.mp h.2), rfl⟩
set_option maxHeartbeats 4000000 in
set_option maxRecDepth 100000 in
theorem b_gramsOf (l : Launch) (G : va_G) (cy : Nat → ClassId) (B : Nat) (ad : Nat → Nat) (f : zW) (k0 k1 : Nat) (t0 : UInt64) (a2 a3 a4 a5 a6 : Int32) (r7 r8 : Option Nat) (g0 : Nat → Int64) (hb : f k0 = some (.inr (1, [.ref (ad k1), .double t0, .int a2, .int a3, .int a4, .int a5, .int a6, va_rf r7, va_rf r8]))) (hg : f k1 = some (.inl (cy 0, 4, .inr (.inl g0)))) (kd : Int32) : Ct l G cy B yX0_gramsOf cX0_gramsOf 2 (some .long) ({ frames := 1, cells := 0, slots := 0, locals := 20 } : Room) ad f [.ref (ad k0), .int kd] (fun v ad' f' => v = some (.long (if okKind kd then g0 kd.toNatClampNeg else 0)) ∧ ad = ad' ∧ f = f') := by
  refine ct_of (by decide +kernel) (Nat.le_of_ble_eq_true rfl) ?_
  intro p e s m args below meth c X hnm
  refine z_lv (lv' := [(0, .ref (ad k0)), (1, .int kd)]) [0, 1] rfl ?_
  refine z_iload_n X 1 dX0_gramsOf_0 rfl rfl ?_
  refine z_callSN X (n := 1) (As := [.int kd]) (rest := []) (c_X3_isKind l G cy B ad f kd) (List.mem_of_getElem? (i := 11) rfl) q_139 q_24 q_140 (by decide +kernel) ⟨Nat.le_of_ble_eq_true rfl, Nat.le_of_ble_eq_true rfl⟩ rfl rfl (Nat.le_of_ble_eq_true rfl) dX0_gramsOf_1 ⟨Nat.le_of_ble_eq_true rfl, Nat.le_of_ble_eq_true rfl⟩ (fun v ad' f' hp had => ?_)
  obtain ⟨rfl, rfl, rfl⟩ := hp
  refine z_st (st' := [.int (nI (if okKind kd then 1 else 0))]) rfl ?_
  refine z_if_eqB X (tgt := 16) dX0_gramsOf_4 (by decide) (fun c4 => ?_) (fun c4 => ?_)
  · refine z_lconst X (v := 0) dX0_gramsOf_16 rfl ?_
    refine z_lret X (Nat.le_of_ble_eq_true rfl) (Nat.le_of_ble_eq_true rfl) ?_ dX0_gramsOf_17
    exact ⟨by first | rw [if_pos c4] | rw [if_neg c4], rfl, rfl⟩
  · refine z_aload_n X 0 dX0_gramsOf_7 rfl rfl ?_
    refine z_get X (v := .ref (ad k1)) k0 0 wa_X0 rfl rfl hb (by decide) q_156 rfl rfl dX0_gramsOf_8 ?_
    refine z_iload_n X 1 dX0_gramsOf_11 rfl rfl ?_
    refine z_lald X (n := 4) (g := g0) k1 rfl hg (kd_in c4) dX0_gramsOf_12 ?_
    refine z_goto X (tgt := 17) dX0_gramsOf_13 (by decide) ?_
    refine z_lret X (Nat.le_of_ble_eq_true rfl) (Nat.le_of_ble_eq_true rfl) ?_ dX0_gramsOf_17
    exact ⟨by first | rw [if_pos c4] | rw [if_neg c4], rfl, rfl⟩
set_option maxHeartbeats 4000000 in
set_option maxRecDepth 100000 in
theorem b_totalGrams (l : Launch) (G : va_G) (cy : Nat → ClassId) (B : Nat) (ad : Nat → Nat) (f : zW) (k0 k1 : Nat) (t0 : UInt64) (a2 a3 a4 a5 a6 : Int32) (r7 r8 : Option Nat) (g0 : Nat → Int64) (hb : f k0 = some (.inr (1, [.ref (ad k1), .double t0, .int a2, .int a3, .int a4, .int a5, .int a6, va_rf r7, va_rf r8]))) (hg : f k1 = some (.inl (cy 0, 4, .inr (.inl g0))))  : Ct l G cy B yX0_totalGrams cX0_totalGrams 4 (some .long) ({ frames := 0, cells := 0, slots := 0, locals := 0 } : Room) ad f [.ref (ad k0)] (fun v ad' f' => v = some (.long (sumL g0 4)) ∧ ad = ad' ∧ f = f') := by
  refine ct_of (by decide +kernel) (Nat.le_of_ble_eq_true rfl) ?_
  intro p e s m args below meth c X hnm
  refine z_lv (lv' := [(0, .ref (ad k0))]) [0] rfl ?_
  refine z_lconst X (v := 0) dX0_totalGrams_0 rfl ?_
  refine z_lstore_n X (lv' := [(1, .long 0), (0, .ref (ad k0))]) dX0_totalGrams_1 rfl (by decide) rfl ?_
  refine z_iconst X (v := nI 0) dX0_totalGrams_2 (by decide) ?_
  refine z_istore_n X (lv' := [(3, .int (nI 0)), (1, .long 0), (0, .ref (ad k0))]) dX0_totalGrams_3 rfl (by decide) rfl ?_
  refine z_lv (lv' := [(0, .ref (ad k0)), (1, .long 0), (3, .int (nI 0))]) [2, 1, 0] rfl ?_
  have lp4 : ∀ (fu4 : Nat) (i : Nat) (sv : Int64), (i ≤ 4) → (sv = sumL g0 i) → 5 ≤ i + fu4 → Z G B 4 ad f p l e ({ frames := 0, cells := 0, slots := 0, locals := 0 } : Room) s m args below meth c (zEnd G B ad f below args s ({ frames := 0, cells := 0, slots := 0, locals := 0 } : Room) (fun v ad' f' => v = some (.long (sumL g0 4)) ∧ ad = ad' ∧ f = f')) ad f 0 0 4 [(0, .ref (ad k0)), (1, .long sv), (3, .int (nI i))] [] := by
    intro fu4
    induction fu4 with
    | zero => intro i sv hi hs hm4; exact absurd hm4 (by omega)
    | succ fu4 ih4 =>
      intro i sv hi hs hm4
      refine z_iload_n X 2 dX0_totalGrams_4 rfl rfl ?_
      refine z_iconst X (v := nI 4) dX0_totalGrams_5 (by decide) ?_
      refine z_icmp_geN X (tgt := 24) (by omega) (by omega) dX0_totalGrams_6 (by decide) (fun c6 => ?_) (fun c6 => ?_)
      · have e9 : i = 4 := by omega
        rw [e9] at hs
        refine z_lload_n X 1 dX0_totalGrams_24 rfl rfl ?_
        refine z_lret X (Nat.le_of_ble_eq_true rfl) (Nat.le_of_ble_eq_true rfl) ?_ dX0_totalGrams_25
        exact ⟨by rw [hs], rfl, rfl⟩
      · refine z_lload_n X 1 dX0_totalGrams_9 rfl rfl ?_
        refine z_aload_n X 0 dX0_totalGrams_10 rfl rfl ?_
        refine z_get X (v := .ref (ad k1)) k0 0 wa_X0 rfl rfl hb (by decide) q_156 rfl rfl dX0_totalGrams_11 ?_
        refine z_iload_n X 2 dX0_totalGrams_14 rfl rfl ?_
        refine z_laldN X (n := 4) (g := g0) k1 rfl hg (by omega) (by decide) dX0_totalGrams_15 ?_
        refine z_ladd X dX0_totalGrams_16 ?_
        refine z_lstore_n X (lv' := [(1, .long (sv + (g0 i))), (0, .ref (ad k0)), (3, .int (nI i))]) dX0_totalGrams_17 rfl (by decide) rfl ?_
        refine z_iincN X 2 (k := 1) (lv' := [(3, .int (nI (i + 1))), (1, .long (sv + (g0 i))), (0, .ref (ad k0))]) dX0_totalGrams_18 rfl (by decide) (by decide) rfl ?_
        refine z_goto X (tgt := 4) dX0_totalGrams_21 (by decide) ?_
        refine z_lv (lv' := [(0, .ref (ad k0)), (1, .long (sv + (g0 i))), (3, .int (nI (i + 1)))]) [2, 1, 0] rfl ?_
        exact ih4 (i + 1) (sv + (g0 i)) (by omega) (by rw [hs]; rfl) (by omega)
  exact lp4 5 0 0 (by omega) (by rfl) (by omega)
set_option maxHeartbeats 4000000 in
set_option maxRecDepth 100000 in
theorem b_mainKind (l : Launch) (G : va_G) (cy : Nat → ClassId) (B : Nat) (ad : Nat → Nat) (f : zW) (k0 k1 : Nat) (t0 : UInt64) (a2 a3 a4 a5 a6 : Int32) (r7 r8 : Option Nat) (g0 : Nat → Int64) (hb : f k0 = some (.inr (1, [.ref (ad k1), .double t0, .int a2, .int a3, .int a4, .int a5, .int a6, va_rf r7, va_rf r8]))) (hg : f k1 = some (.inl (cy 0, 4, .inr (.inl g0))))  : Ct l G cy B yX0_mainKind cX0_mainKind 3 (some .int) ({ frames := 0, cells := 0, slots := 0, locals := 0 } : Room) ad f [.ref (ad k0)] (fun v ad' f' => v = some (.int (nI (mainL g0 3))) ∧ ad = ad' ∧ f = f') := by
  refine ct_of (by decide +kernel) (Nat.le_of_ble_eq_true rfl) ?_
  intro p e s m args below meth c X hnm
  refine z_lv (lv' := [(0, .ref (ad k0))]) [0] rfl ?_
  refine z_iconst X (v := nI 0) dX0_mainKind_0 (by decide) ?_
  refine z_istore_n X (lv' := [(1, .int (nI 0)), (0, .ref (ad k0))]) dX0_mainKind_1 rfl (by decide) rfl ?_
  refine z_iconst X (v := nI 1) dX0_mainKind_2 (by decide) ?_
  refine z_istore_n X (lv' := [(2, .int (nI 1)), (1, .int (nI 0)), (0, .ref (ad k0))]) dX0_mainKind_3 rfl (by decide) rfl ?_
  refine z_lv (lv' := [(0, .ref (ad k0)), (1, .int (nI 0)), (2, .int (nI 1))]) [2, 1, 0] rfl ?_
  have lp4 : ∀ (fu4 : Nat) (i mv : Nat), (i ≤ 3) → (mv ≤ i) → (mv = mainL g0 i) → 4 ≤ i + fu4 → Z G B 3 ad f p l e ({ frames := 0, cells := 0, slots := 0, locals := 0 } : Room) s m args below meth c (zEnd G B ad f below args s ({ frames := 0, cells := 0, slots := 0, locals := 0 } : Room) (fun v ad' f' => v = some (.int (nI (mainL g0 3))) ∧ ad = ad' ∧ f = f')) ad f 0 0 4 [(0, .ref (ad k0)), (1, .int (nI mv)), (2, .int (nI (i + 1)))] [] := by
    intro fu4
    induction fu4 with
    | zero => intro i mv hi hm hs hm4; exact absurd hm4 (by omega)
    | succ fu4 ih4 =>
      intro i mv hi hm hs hm4
      refine z_iload_n X 2 dX0_mainKind_4 rfl rfl ?_
      refine z_iconst X (v := nI 4) dX0_mainKind_5 (by decide) ?_
      refine z_icmp_geN X (tgt := 33) (by omega) (by omega) dX0_mainKind_6 (by decide) (fun c6 => ?_) (fun c6 => ?_)
      · have e9 : i = 3 := by omega
        rw [e9] at hs
        refine z_iload_n X 1 dX0_mainKind_33 rfl rfl ?_
        refine z_iret X (Nat.le_of_ble_eq_true rfl) (Nat.le_of_ble_eq_true rfl) ?_ dX0_mainKind_34
        exact ⟨by rw [hs], rfl, rfl⟩
      · refine z_aload_n X 0 dX0_mainKind_9 rfl rfl ?_
        refine z_get X (v := .ref (ad k1)) k0 0 wa_X0 rfl rfl hb (by decide) q_156 rfl rfl dX0_mainKind_10 ?_
        refine z_iload_n X 2 dX0_mainKind_13 rfl rfl ?_
        refine z_laldN X (n := 4) (g := g0) k1 rfl hg (by omega) (by decide) dX0_mainKind_14 ?_
        refine z_aload_n X 0 dX0_mainKind_15 rfl rfl ?_
        refine z_get X (v := .ref (ad k1)) k0 0 wa_X0 rfl rfl hb (by decide) q_156 rfl rfl dX0_mainKind_16 ?_
        refine z_iload_n X 1 dX0_mainKind_19 rfl rfl ?_
        refine z_laldN X (n := 4) (g := g0) k1 rfl hg (by omega) (by decide) dX0_mainKind_20 ?_
        refine z_lcmp_le X (tgt := 27) dX0_mainKind_21 dX0_mainKind_22 (by decide) (fun c21 => ?_) (fun c21 => ?_)
        · refine z_iincN X 2 (k := 1) (lv' := [(2, .int (nI (i + 1 + 1))), (0, .ref (ad k0)), (1, .int (nI mv))]) dX0_mainKind_27 rfl (by decide) (by decide) rfl ?_
          refine z_goto X (tgt := 4) dX0_mainKind_30 (by decide) ?_
          refine z_lv (lv' := [(0, .ref (ad k0)), (1, .int (nI mv)), (2, .int (nI (i + 1 + 1)))]) [1, 2, 0] rfl ?_
          exact ih4 (i + 1) mv (by omega) (by omega) (by subst hs; exact (if_neg (Int64.not_lt.mpr c21)).symm) (by omega)
        · refine z_iload_n X 2 dX0_mainKind_25 rfl rfl ?_
          refine z_istore_n X (lv' := [(1, .int (nI (i + 1))), (0, .ref (ad k0)), (2, .int (nI (i + 1)))]) dX0_mainKind_26 rfl (by decide) rfl ?_
          refine z_iincN X 2 (k := 1) (lv' := [(2, .int (nI (i + 1 + 1))), (1, .int (nI (i + 1))), (0, .ref (ad k0))]) dX0_mainKind_27 rfl (by decide) (by decide) rfl ?_
          refine z_goto X (tgt := 4) dX0_mainKind_30 (by decide) ?_
          refine z_lv (lv' := [(0, .ref (ad k0)), (1, .int (nI (i + 1))), (2, .int (nI (i + 1 + 1)))]) [2, 1, 0] rfl ?_
          exact ih4 (i + 1) (i + 1) (by omega) (by omega) (by subst hs; exact (if_pos (Int64.not_le.mp c21)).symm) (by omega)
  exact lp4 4 0 0 (by omega) (by omega) (by rfl) (by omega)
set_option maxHeartbeats 4000000 in
set_option maxRecDepth 100000 in
theorem b_isHot (l : Launch) (G : va_G) (cy : Nat → ClassId) (B : Nat) (ad : Nat → Nat) (f : zW) (k0 k1 : Nat) (t0 : UInt64) (a2 a3 a4 a5 a6 : Int32) (r7 r8 : Option Nat) (g0 : Nat → Int64) (hb : f k0 = some (.inr (1, [.ref (ad k1), .double t0, .int a2, .int a3, .int a4, .int a5, .int a6, va_rf r7, va_rf r8]))) (hg : f k1 = some (.inl (cy 0, 4, .inr (.inl g0))))  : Ct l G cy B yX0_isHot cX0_isHot 1 (some .boolean) ({ frames := 0, cells := 0, slots := 0, locals := 0 } : Room) ad f [.ref (ad k0)] (fun v ad' f' => v = some (.int (nI (if dGe t0 4633641066610819072 = true then 1 else 0))) ∧ ad = ad' ∧ f = f') := by
  refine ct_of (by decide +kernel) (Nat.le_of_ble_eq_true rfl) ?_
  intro p e s m args below meth c X hnm
  refine z_lv (lv' := [(0, .ref (ad k0))]) [0] rfl ?_
  refine z_aload_n X 0 dX0_isHot_0 rfl rfl ?_
  refine z_get X (v := .double t0) k0 1 wa_X0 rfl rfl hb (by decide) q_157 rfl rfl dX0_isHot_1 ?_
  refine z_ldc2d X dX0_isHot_4 q_257 ?_
  refine z_dcmp_lt X (tgt := 15) dX0_isHot_7 dX0_isHot_8 (by decide) (fun c7 => ?_) (fun c7 => ?_)
  · refine z_iconst X (v := nI 0) dX0_isHot_15 (by decide) ?_
    refine z_zret rfl X (Nat.le_of_ble_eq_true rfl) (Nat.le_of_ble_eq_true rfl) ?_ dX0_isHot_16
    exact ⟨by rw [c7]; rfl, rfl, rfl⟩
  · refine z_iconst X (v := nI 1) dX0_isHot_11 (by decide) ?_
    refine z_goto X (tgt := 16) dX0_isHot_12 (by decide) ?_
    refine z_zret rfl X (Nat.le_of_ble_eq_true rfl) (Nat.le_of_ble_eq_true rfl) ?_ dX0_isHot_16
    exact ⟨by rw [c7]; rfl, rfl, rfl⟩
set_option maxHeartbeats 4000000 in
set_option maxRecDepth 100000 in
theorem b_isGoneOrSold (l : Launch) (G : va_G) (cy : Nat → ClassId) (B : Nat) (ad : Nat → Nat) (f : zW) (k0 k1 : Nat) (t0 : UInt64) (a2 a3 a4 a5 a6 : Int32) (r7 r8 : Option Nat) (g0 : Nat → Int64) (hb : f k0 = some (.inr (1, [.ref (ad k1), .double t0, .int a2, .int a3, .int a4, .int a5, .int a6, va_rf r7, va_rf r8]))) (hg : f k1 = some (.inl (cy 0, 4, .inr (.inl g0))))  : Ct l G cy B yX0_isGoneOrSold cX0_isGoneOrSold 1 (some .boolean) ({ frames := 0, cells := 0, slots := 0, locals := 0 } : Room) ad f [.ref (ad k0)] (fun v ad' f' => v = some (.int (nI (if a4 = nI 3 ∨ a4 = nI 2 then 1 else 0))) ∧ ad = ad' ∧ f = f') := by
  refine ct_of (by decide +kernel) (Nat.le_of_ble_eq_true rfl) ?_
  intro p e s m args below meth c X hnm
  refine z_lv (lv' := [(0, .ref (ad k0))]) [0] rfl ?_
  refine z_aload_n X 0 dX0_isGoneOrSold_0 rfl rfl ?_
  refine z_get X (v := .int a4) k0 4 wa_X0 rfl rfl hb (by decide) q_160 rfl rfl dX0_isGoneOrSold_1 ?_
  refine z_iconst X (v := nI 3) dX0_isGoneOrSold_4 (by decide) ?_
  refine z_icmp_eq X (tgt := 16) dX0_isGoneOrSold_5 (by decide) (fun c5 => ?_) (fun c5 => ?_)
  · refine z_iconst X (v := nI 1) dX0_isGoneOrSold_16 (by decide) ?_
    refine z_goto X (tgt := 21) dX0_isGoneOrSold_17 (by decide) ?_
    refine z_zret rfl X (Nat.le_of_ble_eq_true rfl) (Nat.le_of_ble_eq_true rfl) ?_ dX0_isGoneOrSold_21
    exact ⟨by rw [if_pos (Or.inl c5)], rfl, rfl⟩
  · refine z_aload_n X 0 dX0_isGoneOrSold_8 rfl rfl ?_
    refine z_get X (v := .int a4) k0 4 wa_X0 rfl rfl hb (by decide) q_160 rfl rfl dX0_isGoneOrSold_9 ?_
    refine z_iconst X (v := nI 2) dX0_isGoneOrSold_12 (by decide) ?_
    refine z_icmp_ne X (tgt := 20) dX0_isGoneOrSold_13 (by decide) (fun c13 => ?_) (fun c13 => ?_)
    · refine z_iconst X (v := nI 0) dX0_isGoneOrSold_20 (by decide) ?_
      refine z_zret rfl X (Nat.le_of_ble_eq_true rfl) (Nat.le_of_ble_eq_true rfl) ?_ dX0_isGoneOrSold_21
      exact ⟨by rw [if_neg (fun h => h.elim c5 c13)], rfl, rfl⟩
    · refine z_iconst X (v := nI 1) dX0_isGoneOrSold_16 (by decide) ?_
      refine z_goto X (tgt := 21) dX0_isGoneOrSold_17 (by decide) ?_
      refine z_zret rfl X (Nat.le_of_ble_eq_true rfl) (Nat.le_of_ble_eq_true rfl) ?_ dX0_isGoneOrSold_21
      exact ⟨by rw [if_pos (Or.inr c13)], rfl, rfl⟩
set_option maxHeartbeats 4000000 in
set_option maxRecDepth 100000 in
theorem b_standsOn (l : Launch) (G : va_G) (cy : Nat → ClassId) (B : Nat) (ad : Nat → Nat) (f : zW) (k0 k1 : Nat) (t0 : UInt64) (a2 a3 a4 a5 a6 : Int32) (r7 r8 : Option Nat) (g0 : Nat → Int64) (hb : f k0 = some (.inr (1, [.ref (ad k1), .double t0, .int a2, .int a3, .int a4, .int a5, .int a6, va_rf r7, va_rf r8]))) (hg : f k1 = some (.inl (cy 0, 4, .inr (.inl g0)))) (sn : Int32) : Ct l G cy B yX0_standsOn cX0_standsOn 2 (some .boolean) ({ frames := 0, cells := 0, slots := 0, locals := 0 } : Room) ad f [.ref (ad k0), .int sn] (fun v ad' f' => v = some (.int (nI (if a4 = nI 1 ∧ a5 = sn then 1 else 0))) ∧ ad = ad' ∧ f = f') := by
  refine ct_of (by decide +kernel) (Nat.le_of_ble_eq_true rfl) ?_
  intro p e s m args below meth c X hnm
  refine z_lv (lv' := [(0, .ref (ad k0)), (1, .int sn)]) [0, 1] rfl ?_
  refine z_aload_n X 0 dX0_standsOn_0 rfl rfl ?_
  refine z_get X (v := .int a4) k0 4 wa_X0 rfl rfl hb (by decide) q_160 rfl rfl dX0_standsOn_1 ?_
  refine z_iconst X (v := nI 1) dX0_standsOn_4 (by decide) ?_
  refine z_icmp_ne X (tgt := 20) dX0_standsOn_5 (by decide) (fun c5 => ?_) (fun c5 => ?_)
  · refine z_iconst X (v := nI 0) dX0_standsOn_20 (by decide) ?_
    refine z_zret rfl X (Nat.le_of_ble_eq_true rfl) (Nat.le_of_ble_eq_true rfl) ?_ dX0_standsOn_21
    exact ⟨by rw [if_neg (fun h => c5 h.1)], rfl, rfl⟩
  · refine z_aload_n X 0 dX0_standsOn_8 rfl rfl ?_
    refine z_get X (v := .int a5) k0 5 wa_X0 rfl rfl hb (by decide) q_161 rfl rfl dX0_standsOn_9 ?_
    refine z_iload_n X 1 dX0_standsOn_12 rfl rfl ?_
    refine z_icmp_ne X (tgt := 20) dX0_standsOn_13 (by decide) (fun c13 => ?_) (fun c13 => ?_)
    · refine z_iconst X (v := nI 0) dX0_standsOn_20 (by decide) ?_
      refine z_zret rfl X (Nat.le_of_ble_eq_true rfl) (Nat.le_of_ble_eq_true rfl) ?_ dX0_standsOn_21
      exact ⟨by rw [if_neg (fun h => c13 h.2)], rfl, rfl⟩
    · refine z_iconst X (v := nI 1) dX0_standsOn_16 (by decide) ?_
      refine z_goto X (tgt := 21) dX0_standsOn_17 (by decide) ?_
      refine z_zret rfl X (Nat.le_of_ble_eq_true rfl) (Nat.le_of_ble_eq_true rfl) ?_ dX0_standsOn_21
      exact ⟨by rw [if_pos ⟨c5, c13⟩], rfl, rfl⟩
set_option maxHeartbeats 4000000 in
set_option maxRecDepth 100000 in
theorem b_addGrams (l : Launch) (G : va_G) (cy : Nat → ClassId) (B : Nat) (ad : Nat → Nat) (f : zW) (k0 k1 : Nat) (t0 : UInt64) (a2 a3 a4 a5 a6 : Int32) (r7 r8 : Option Nat) (g0 : Nat → Int64) (hb : f k0 = some (.inr (1, [.ref (ad k1), .double t0, .int a2, .int a3, .int a4, .int a5, .int a6, va_rf r7, va_rf r8]))) (hg : f k1 = some (.inl (cy 0, 4, .inr (.inl g0)))) (kd : Int32) (mg : Int64) (hk : okKind kd) : Ct l G cy B yX0_addGrams cX0_addGrams 4 none ({ frames := 1, cells := 0, slots := 0, locals := 20 } : Room) ad f [.ref (ad k0), .int kd, .long mg] (fun v ad' f' => v = none ∧ ad = ad' ∧ zup f k1 (.inl (cy 0, 4, .inr (.inl (vp_updL g0 kd.toNatClampNeg (g0 kd.toNatClampNeg + mg))))) = f') := by
  refine ct_of (by decide +kernel) (Nat.le_of_ble_eq_true rfl) ?_
  intro p e s m args below meth c X hnm
  refine z_lv (lv' := [(0, .ref (ad k0)), (1, .int kd), (2, .long mg)]) [0, 1, 2] rfl ?_
  refine z_iload_n X 1 dX0_addGrams_0 rfl rfl ?_
  refine z_callSN X (n := 1) (As := [.int kd]) (rest := []) (c_X3_isKind l G cy B ad f kd) (List.mem_of_getElem? (i := 11) rfl) q_139 q_24 q_140 (by decide +kernel) ⟨Nat.le_of_ble_eq_true rfl, Nat.le_of_ble_eq_true rfl⟩ rfl rfl (Nat.le_of_ble_eq_true rfl) dX0_addGrams_1 ⟨Nat.le_of_ble_eq_true rfl, Nat.le_of_ble_eq_true rfl⟩ (fun v ad' f' hp had => ?_)
  obtain ⟨rfl, rfl, rfl⟩ := hp
  refine z_st (st' := [.int (nI (if okKind kd then 1 else 0))]) rfl ?_
  refine z_if_eqB X (tgt := 17) dX0_addGrams_4 (by decide) (fun c4 => by exfalso; exact c4 hk) (fun c4 => ?_)
  refine z_aload_n X 0 dX0_addGrams_7 rfl rfl ?_
  refine z_get X (v := .ref (ad k1)) k0 0 wa_X0 rfl rfl hb (by decide) q_156 rfl rfl dX0_addGrams_8 ?_
  refine z_iload_n X 1 dX0_addGrams_11 rfl rfl ?_
  refine z_dup2_11 X dX0_addGrams_12 rfl rfl ?_
  refine z_lald X (n := 4) (g := g0) k1 rfl hg (kd_in hk) dX0_addGrams_13 ?_
  refine z_lload_n X 2 dX0_addGrams_14 rfl rfl ?_
  refine z_ladd X dX0_addGrams_15 ?_
  refine z_last X (n := 4) (g := g0) k1 rfl hg (kd_in hk) dX0_addGrams_16 ?_
  refine z_vret X (Nat.le_of_ble_eq_true rfl) (Nat.le_of_ble_eq_true rfl) ?_ dX0_addGrams_17
  exact ⟨rfl, rfl, rfl⟩
