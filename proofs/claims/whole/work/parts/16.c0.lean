theorem zup_zup {f : zW} {k : Nat} {a b : va_E} : zup (zup f k a) k b = zup f k b := by
  funext j
  unfold zup
  by_cases h : j = k <;> simp [h]
/-! THE CLASS'S WORLD. Codes: 0 the press, 1 .. 15 its arrays, 16 and 17 the text; i + 100 bale i, i + 200 its grams, i + 300 stack i, i + 400 lorry i. cn: counters (by the object's fields; 16 the text's length; 30, 31, 32 how many bales, stacks, lorries there are) -/
abbrev cObj (ad cn : Nat → Nat) (uj : Nat → Int32) : List Value := [.ref (ad 1), .ref (ad 2), .ref (ad 3), .int (nI (cn 3)), .int (nI (cn 4)), .ref (ad 6), .int (nI (cn 6)), .ref (ad 8), .ref (ad 9), .int (nI (cn 9)), .int (uj 10), .ref (ad 12), .int (nI (cn 12)), .ref (ad 14), .int (nI (cn 14)), .ref (ad 16)]
abbrev bObj (ad : Nat → Nat) (uj : Nat → Int32) (xj : Nat → UInt64) (rj : Nat → Option Nat) (j : Nat) : List Value := [.ref (ad j), .double (xj 1), .int (uj 2), .int (uj 3), .int (uj 4), .int (uj 5), .int (uj 6), va_rf (rj 7), va_rf (rj 8)]
abbrev tObj (ad cn : Nat → Nat) (uj : Nat → Int32) : List Value := [.ref (ad 17), .int (uj 1), .int (uj 2), .int (nI (cn 16))]
abbrev sObj (uj : Nat → Int32) : List Value := [.int (uj 0), .int (uj 1)]
abbrev lObj (uj : Nat → Int32) (wj : Nat → Int64) : List Value := [.long (wj 0), .long (wj 1), .long (wj 2), .long (wj 3), .int (uj 4)]
def cBase (cy : Nat → ClassId) (ad cn : Nat → Nat) (uj : Nat → Int32) (wj : Nat → Int64) (xj : Nat → UInt64) (rj : Nat → Option Nat) : Nat → Option va_E
  | 0 => some (.inr (4, cObj ad cn uj))
  | 1 => some (.inl (cy 0, 200, .inr (.inl wj)))
  | 2 => some (.inl (cy 1, 200, .inl uj))
  | 3 => some (.inl (cy 0, 200, .inr (.inl wj)))
  | 6 => some (.inl (cy 4, 12, .inr (.inr (.inr (.inr rj)))))
  | 8 => some (.inl (cy 2, 6, .inr (.inr (.inr (.inl xj)))))
  | 9 => some (.inl (cy 2, 6, .inr (.inr (.inr (.inl xj)))))
  | 12 => some (.inl (cy 6, 4, .inr (.inr (.inr (.inr rj)))))
  | 14 => some (.inl (cy 5, 3, .inr (.inr (.inr (.inr rj)))))
  | 16 => some (.inr (0, tObj ad cn uj))
  | 17 => some (.inl (cy 3, 16, .inl uj))
  | _ => none
def cAt (cy : Nat → ClassId) (ad cn : Nat → Nat) (uj : Nat → Int32) (wj : Nat → Int64) (xj : Nat → UInt64) (rj : Nat → Option Nat) (j : Nat) : Option va_E :=
  if j < 100 then cBase cy ad cn uj wj xj rj j
  else if j < 200 then (if j < cn 30 + 100 then some (.inr (1, bObj ad uj xj rj (j + 100))) else none)
  else if j < 300 then (if j < cn 30 + 200 then some (.inl (cy 0, 4, .inr (.inl wj))) else none)
  else if j < 400 then (if j < cn 31 + 300 then some (.inr (3, sObj uj)) else none)
  else if j < 500 then (if j < cn 32 + 400 then some (.inr (2, lObj uj wj)) else none) else none
def CF (cy : Nat → ClassId) (ad cn : Nat → Nat) (u : Nat → Nat → Int32) (w : Nat → Nat → Int64) (x : Nat → Nat → UInt64) (r : Nat → Nat → Option Nat) : zW := fun j => cAt cy ad cn (u j) (w j) (x j) (r j) j
section CWL
variable {cy : Nat → ClassId} {ad cn : Nat → Nat} {u : Nat → Nat → Int32} {w : Nat → Nat → Int64} {x : Nat → Nat → UInt64} {r : Nat → Nat → Option Nat} {i k : Nat}
theorem cAt_b {uj : Nat → Int32} {wj : Nat → Int64} {xj : Nat → UInt64} {rj : Nat → Option Nat} (hi : i < cn 30) (hp : cn 30 ≤ 12) : cAt cy ad cn uj wj xj rj (i + 100) = some (.inr (1, bObj ad uj xj rj (i + 200))) := by
  rw [cAt, if_neg (by omega), if_pos (by omega), if_pos (by omega)]
theorem cAt_g {uj : Nat → Int32} {wj : Nat → Int64} {xj : Nat → UInt64} {rj : Nat → Option Nat} (hi : i < cn 30) (hp : cn 30 ≤ 12) : cAt cy ad cn uj wj xj rj (i + 200) = some (.inl (cy 0, 4, .inr (.inl wj))) := by
  rw [cAt, if_neg (by omega), if_neg (by omega), if_pos (by omega), if_pos (by omega)]
theorem cAt_s {uj : Nat → Int32} {wj : Nat → Int64} {xj : Nat → UInt64} {rj : Nat → Option Nat} (hi : i < cn 31) (hp : cn 31 ≤ 4) : cAt cy ad cn uj wj xj rj (i + 300) = some (.inr (3, sObj uj)) := by
  rw [cAt, if_neg (by omega), if_neg (by omega), if_neg (by omega), if_pos (by omega), if_pos (by omega)]
theorem cAt_l {uj : Nat → Int32} {wj : Nat → Int64} {xj : Nat → UInt64} {rj : Nat → Option Nat} (hi : i < cn 32) (hp : cn 32 ≤ 3) : cAt cy ad cn uj wj xj rj (i + 400) = some (.inr (2, lObj uj wj)) := by
  rw [cAt, if_neg (by omega), if_neg (by omega), if_neg (by omega), if_neg (by omega), if_pos (by omega), if_pos (by omega)]
theorem CF_b (hi : i < cn 30) (hp : cn 30 ≤ 12) : CF cy ad cn u w x r (i + 100) = some (.inr (1, bObj ad (u (i + 100)) (x (i + 100)) (r (i + 100)) (i + 200))) := cAt_b hi hp
theorem CF_g (hi : i < cn 30) (hp : cn 30 ≤ 12) : CF cy ad cn u w x r (i + 200) = some (.inl (cy 0, 4, .inr (.inl (w (i + 200))))) := cAt_g hi hp
theorem CF_s (hi : i < cn 31) (hp : cn 31 ≤ 4) : CF cy ad cn u w x r (i + 300) = some (.inr (3, sObj (u (i + 300)))) := cAt_s hi hp
theorem CF_l (hi : i < cn 32) (hp : cn 32 ≤ 3) : CF cy ad cn u w x r (i + 400) = some (.inr (2, lObj (u (i + 400)) (w (i + 400)))) := cAt_l hi hp
theorem CF_all {y : va_E} (gu : Nat → Int32) (gw : Nat → Int64) (gx : Nat → UInt64) (gr : Nat → Option Nat) (h : cAt cy ad cn gu gw gx gr k = some y) : zup (CF cy ad cn u w x r) k y = CF cy ad cn (va_up u k gu) (va_up w k gw) (va_up x k gx) (va_up r k gr) := by
  funext j
  by_cases e : j = k
  · subst e
    rw [zup_same, CF]
    simp only [va_up, if_true]
    exact h.symm
  · rw [zup_ne e, CF, CF]
    simp only [va_up, e, if_false]
theorem CF_ux {y : va_E} (gu : Nat → Int32) (gx : Nat → UInt64) (h : cAt cy ad cn gu (w k) gx (r k) k = some y) : zup (CF cy ad cn u w x r) k y = CF cy ad cn (va_up u k gu) w (va_up x k gx) r := by
  rw [CF_all gu (w k) gx (r k) h, up_self, up_self]
theorem CF_uw {y : va_E} (gu : Nat → Int32) (gw : Nat → Int64) (h : cAt cy ad cn gu gw (x k) (r k) k = some y) : zup (CF cy ad cn u w x r) k y = CF cy ad cn (va_up u k gu) (va_up w k gw) x r := by
  rw [CF_all gu gw (x k) (r k) h, up_self, up_self]
theorem CF_u {y : va_E} (g : Nat → Int32) (h : cAt cy ad cn g (w k) (x k) (r k) k = some y) : zup (CF cy ad cn u w x r) k y = CF cy ad cn (va_up u k g) w x r := by
  funext j
  by_cases e : j = k
  · subst e
    rw [zup_same, CF]
    simp only [va_up, if_true]
    exact h.symm
  · rw [zup_ne e, CF, CF]
    simp only [va_up, e, if_false]
theorem CF_w {y : va_E} (g : Nat → Int64) (h : cAt cy ad cn (u k) g (x k) (r k) k = some y) : zup (CF cy ad cn u w x r) k y = CF cy ad cn u (va_up w k g) x r := by
  funext j
  by_cases e : j = k
  · subst e
    rw [zup_same, CF]
    simp only [va_up, if_true]
    exact h.symm
  · rw [zup_ne e, CF, CF]
    simp only [va_up, e, if_false]
theorem CF_x {y : va_E} (g : Nat → UInt64) (h : cAt cy ad cn (u k) (w k) g (r k) k = some y) : zup (CF cy ad cn u w x r) k y = CF cy ad cn u w (va_up x k g) r := by
  funext j
  by_cases e : j = k
  · subst e
    rw [zup_same, CF]
    simp only [va_up, if_true]
    exact h.symm
  · rw [zup_ne e, CF, CF]
    simp only [va_up, e, if_false]
theorem CF_r {y : va_E} (g : Nat → Option Nat) (h : cAt cy ad cn (u k) (w k) (x k) g k = some y) : zup (CF cy ad cn u w x r) k y = CF cy ad cn u w x (va_up r k g) := by
  funext j
  by_cases e : j = k
  · subst e
    rw [zup_same, CF]
    simp only [va_up, if_true]
    exact h.symm
  · rw [zup_ne e, CF, CF]
    simp only [va_up, e, if_false]
/-- a counter of the press, or of the text -/
theorem CF_c {cn' : Nat → Nat} {y : va_E} (k : Nat) (hk : k = 0 ∨ k = 16) (h30 : cn' 30 = cn 30) (h31 : cn' 31 = cn 31) (h32 : cn' 32 = cn 32) (h : cAt cy ad cn' (u k) (w k) (x k) (r k) k = some y) (ho : k = 0 → cn' 16 = cn 16) (ht : k = 16 → cn' 3 = cn 3 ∧ cn' 4 = cn 4 ∧ cn' 6 = cn 6 ∧ cn' 9 = cn 9 ∧ cn' 12 = cn 12 ∧ cn' 14 = cn 14) : zup (CF cy ad cn u w x r) k y = CF cy ad cn' u w x r := by
  funext j
  by_cases e : j = k
  · subst e
    rw [zup_same]
    exact h.symm
  · rw [zup_ne e, CF, CF, cAt, cAt, h30, h31, h32]
    by_cases hj : j < 100
    · rw [if_pos hj, if_pos hj]
      unfold cBase
      split
      · rcases hk with rfl | rfl
        · exact absurd rfl e
        · obtain ⟨q1, q2, q3, q4, q5, q6⟩ := ht rfl
          simp only [cObj, q1, q2, q3, q4, q5, q6]
      all_goals first | rfl | (rcases hk with rfl | rfl; (simp only [tObj, ho rfl]); exact absurd rfl e)
    · rw [if_neg hj, if_neg hj]
theorem va_same {α : Type} {f : Nat → α} {k : Nat} {a : α} : va_up f k a k = a := if_pos rfl
theorem va_ne {α : Type} {f : Nat → α} {k j : Nat} {a : α} (h : j ≠ k) : va_up f k a j = f j := if_neg h
theorem up_up {α : Type} {f : Nat → α} {k : Nat} {a b : α} : va_up (va_up f k a) k b = va_up f k b := by
  funext j
  unfold va_up
  by_cases h : j = k <;> simp [h]
theorem CF_at {y : va_E} {uk : Nat → Int32} {wk : Nat → Int64} {xk : Nat → UInt64} {rk : Nat → Option Nat} (hu : u k = uk) (hw : w k = wk) (hx : x k = xk) (hr : r k = rk) (h : cAt cy ad cn uk wk xk rk k = some y) : CF cy ad cn u w x r k = some y := by
  subst hu hw hx hr
  exact h
theorem CFs_u {y : va_E} (g : Nat → Int32) {wk : Nat → Int64} {xk : Nat → UInt64} {rk : Nat → Option Nat} (hw : w k = wk) (hx : x k = xk) (hr : r k = rk) (h : cAt cy ad cn g wk xk rk k = some y) : zup (CF cy ad cn u w x r) k y = CF cy ad cn (va_up u k g) w x r := by
  subst hw hx hr
  exact CF_u g h
theorem CFs_w {y : va_E} (g : Nat → Int64) {uk : Nat → Int32} {xk : Nat → UInt64} {rk : Nat → Option Nat} (hu : u k = uk) (hx : x k = xk) (hr : r k = rk) (h : cAt cy ad cn uk g xk rk k = some y) : zup (CF cy ad cn u w x r) k y = CF cy ad cn u (va_up w k g) x r := by
  subst hu hx hr
  exact CF_w g h
theorem CFs_x {y : va_E} (g : Nat → UInt64) {uk : Nat → Int32} {wk : Nat → Int64} {rk : Nat → Option Nat} (hu : u k = uk) (hw : w k = wk) (hr : r k = rk) (h : cAt cy ad cn uk wk g rk k = some y) : zup (CF cy ad cn u w x r) k y = CF cy ad cn u w (va_up x k g) r := by
  subst hu hw hr
  exact CF_x g h
theorem CFs_r {y : va_E} (g : Nat → Option Nat) {uk : Nat → Int32} {wk : Nat → Int64} {xk : Nat → UInt64} (hu : u k = uk) (hw : w k = wk) (hx : x k = xk) (h : cAt cy ad cn uk wk xk g k = some y) : zup (CF cy ad cn u w x r) k y = CF cy ad cn u w x (va_up r k g) := by
  subst hu hw hx
  exact CF_r g h
theorem CF_xr {y : va_E} (gx : Nat → UInt64) (gr : Nat → Option Nat) (h : cAt cy ad cn (u k) (w k) gx gr k = some y) : zup (CF cy ad cn u w x r) k y = CF cy ad cn u w (va_up x k gx) (va_up r k gr) := by
  rw [CF_all (u k) (w k) gx gr h, up_self, up_self]
theorem CF_nX0 (h : cn 30 ≤ cn 6) (hp : cn 6 ≤ 12) : CF cy ad cn u w x r (cn 6 + 100) = none := by
  rw [CF, cAt, if_neg (by omega), if_pos (by omega), if_neg (by omega)]
theorem CF_nG (h : cn 30 ≤ cn 6) (hp : cn 6 ≤ 12) : CF cy ad cn u w x r (cn 6 + 200) = none := by
  rw [CF, cAt, if_neg (by omega), if_neg (by omega), if_pos (by omega), if_neg (by omega)]
theorem CF_nX2 (h : cn 31 ≤ cn 12) (hp : cn 12 ≤ 4) : CF cy ad cn u w x r (cn 12 + 300) = none := by
  rw [CF, cAt, if_neg (by omega), if_neg (by omega), if_neg (by omega), if_pos (by omega), if_neg (by omega)]
theorem CF_nX1 (h : cn 32 ≤ cn 14) (hp : cn 14 ≤ 3) : CF cy ad cn u w x r (cn 14 + 400) = none := by
  rw [CF, cAt, if_neg (by omega), if_neg (by omega), if_neg (by omega), if_neg (by omega), if_pos (by omega), if_neg (by omega)]
/-- the world without its first hundred looks the same by addresses that agree there -/
theorem cBase_ad {ad1 : Nat → Nat} {cn1 : Nat → Nat} {uj : Nat → Int32} {wj : Nat → Int64} {xj : Nat → UInt64} {rj : Nat → Option Nat} {j : Nat} (hA : ∀ k, k < 100 → ad1 k = ad k) (hC : ∀ k, k < 30 → cn1 k = cn k) : cBase cy ad1 cn1 uj wj xj rj j = cBase cy ad cn uj wj xj rj j := by
  unfold cBase
  split
  · simp only [cObj, hA 1 (by decide), hA 2 (by decide), hA 3 (by decide), hA 6 (by decide), hA 8 (by decide), hA 9 (by decide), hA 12 (by decide), hA 14 (by decide), hA 16 (by decide), hC 3 (by decide), hC 4 (by decide), hC 6 (by decide), hC 9 (by decide), hC 12 (by decide), hC 14 (by decide)]
  all_goals first | rfl | simp only [tObj, hA 17 (by decide), hC 16 (by decide)]
theorem CF_newS {ad1 : Nat → Nat} {y0 : va_E} {n : Nat} (uj : Nat → Int32) (hn : n ≤ 4) (h31 : cn 31 = n) (A : ∀ k, k ≠ n + 300 → 0 = 0 → ad1 k = ad k) {y : va_E} (hy : y = .inr (3, sObj uj)) : zup (zup (CF cy ad cn u w x r) (n + 300) y0) (n + 300) y = CF cy ad1 (va_up cn 31 (n + 1)) (va_up u (n + 300) uj) w x r := by
  subst hy
  rw [zup_zup]
  funext j
  by_cases e : j = n + 300
  · subst e
    rw [zup_same, CF, cAt, if_neg (by omega), if_neg (by omega), if_neg (by omega), if_pos (by omega), if_pos (by rw [va_same]; omega), va_same]
  · rw [zup_ne e, CF, CF, va_ne e, cAt, cAt]
    by_cases h1 : j < 100
    · rw [if_pos h1, if_pos h1]
      exact (cBase_ad (fun k hk => A k (by omega) rfl) (fun k hk => va_ne (by omega))).symm
    rw [if_neg h1, if_neg h1]
    by_cases h2 : j < 200
    · rw [if_pos h2, if_pos h2, va_ne (show (30 : Nat) ≠ 31 by decide), bObj, bObj, A (j + 100) (by omega) rfl]
    rw [if_neg h2, if_neg h2]
    by_cases h3 : j < 300
    · rw [if_pos h3, if_pos h3, va_ne (show (30 : Nat) ≠ 31 by decide)]
    rw [if_neg h3, if_neg h3]
    by_cases h4 : j < 400
    · rw [if_pos h4, if_pos h4, va_same, h31]
      by_cases h5 : j < n + 300
      · rw [if_pos h5, if_pos (by omega)]
      · rw [if_neg h5, if_neg (by omega)]
    · rw [if_neg h4, if_neg h4, va_ne (show (32 : Nat) ≠ 31 by decide)]
theorem CF_newL {ad1 : Nat → Nat} {y0 : va_E} {n : Nat} (uj : Nat → Int32) (wj : Nat → Int64) (hn : n ≤ 3) (h32 : cn 32 = n) (A : ∀ k, k ≠ n + 400 → 0 = 0 → ad1 k = ad k) {y : va_E} (hy : y = .inr (2, lObj uj wj)) : zup (zup (CF cy ad cn u w x r) (n + 400) y0) (n + 400) y = CF cy ad1 (va_up cn 32 (n + 1)) (va_up u (n + 400) uj) (va_up w (n + 400) wj) x r := by
  subst hy
  rw [zup_zup]
  funext j
  by_cases e : j = n + 400
  · subst e
    rw [zup_same, CF, cAt, if_neg (by omega), if_neg (by omega), if_neg (by omega), if_neg (by omega), if_pos (by omega), if_pos (by rw [va_same]; omega), va_same, va_same]
  · rw [zup_ne e, CF, CF, va_ne e, va_ne e, cAt, cAt]
    by_cases h1 : j < 100
    · rw [if_pos h1, if_pos h1]
      exact (cBase_ad (fun k hk => A k (by omega) rfl) (fun k hk => va_ne (by omega))).symm
    rw [if_neg h1, if_neg h1]
    by_cases h2 : j < 200
    · rw [if_pos h2, if_pos h2, va_ne (show (30 : Nat) ≠ 32 by decide), bObj, bObj, A (j + 100) (by omega) rfl]
    rw [if_neg h2, if_neg h2]
    by_cases h3 : j < 300
    · rw [if_pos h3, if_pos h3, va_ne (show (30 : Nat) ≠ 32 by decide)]
    rw [if_neg h3, if_neg h3]
    by_cases h4 : j < 400
    · rw [if_pos h4, if_pos h4, va_ne (show (31 : Nat) ≠ 32 by decide)]
    rw [if_neg h4, if_neg h4]
    by_cases h5 : j < 500
    · rw [if_pos h5, if_pos h5, va_same, h32]
      by_cases h6 : j < n + 400
      · rw [if_pos h6, if_pos (by omega)]
      · rw [if_neg h6, if_neg (by omega)]
    · rw [if_neg h5, if_neg h5]
theorem CF_newB {ad1 : Nat → Nat} {y0 yg : va_E} {n : Nat} (uj : Nat → Int32) (gw : Nat → Int64) (xj : Nat → UInt64) (rj : Nat → Option Nat) (hn : n ≤ 12) (h30 : cn 30 = n) (A : ∀ k, k ≠ n + 100 → k ≠ n + 200 → ad1 k = ad k) {y : va_E} (hg : yg = .inl (cy 0, 4, .inr (.inl gw))) (hy : y = .inr (1, bObj ad1 uj xj rj (n + 200))) : zup (zup (zup (CF cy ad cn u w x r) (n + 100) y0) (n + 200) yg) (n + 100) y = CF cy ad1 (va_up cn 30 (n + 1)) (va_up u (n + 100) uj) (va_up w (n + 200) gw) (va_up x (n + 100) xj) (va_up r (n + 100) rj) := by
  subst hy hg
  funext j
  by_cases e : j = n + 100
  · subst e
    rw [zup_same, CF, cAt, if_neg (by omega), if_pos (by omega), if_pos (by rw [va_same]; omega), va_same, va_same, va_same]
  rw [zup_ne e]
  by_cases e2 : j = n + 200
  · subst e2
    rw [zup_same, CF, cAt, if_neg (by omega), if_neg (by omega), if_pos (by omega), if_pos (by rw [va_same]; omega), va_same]
  rw [zup_ne e2, zup_ne e, CF, CF, va_ne e, va_ne e2, va_ne e, va_ne e, cAt, cAt]
  by_cases h1 : j < 100
  · rw [if_pos h1, if_pos h1]
    exact (cBase_ad (fun k hk => A k (by omega) (by omega)) (fun k hk => va_ne (by omega))).symm
  rw [if_neg h1, if_neg h1]
  by_cases h2 : j < 200
  · rw [if_pos h2, if_pos h2, va_same, h30]
    by_cases h5 : j < n + 100
    · rw [if_pos h5, if_pos (by omega), bObj, bObj, A (j + 100) (by omega) (by omega)]
    · rw [if_neg h5, if_neg (by omega)]
  rw [if_neg h2, if_neg h2]
  by_cases h3 : j < 300
  · rw [if_pos h3, if_pos h3, va_same, h30]
    by_cases h5 : j < n + 200
    · rw [if_pos h5, if_pos (by omega)]
    · rw [if_neg h5, if_neg (by omega)]
  rw [if_neg h3, if_neg h3]
  by_cases h4 : j < 400
  · rw [if_pos h4, if_pos h4, va_ne (show (31 : Nat) ≠ 30 by decide)]
  · rw [if_neg h4, if_neg h4, va_ne (show (32 : Nat) ≠ 30 by decide)]
end CWL
/-- what holds of the class's world at all times -/
abbrev CI (ad cn : Nat → Nat) (r : Nat → Nat → Option Nat) : Prop := (cn 3 ≤ 200 ∧ cn 4 ≤ cn 3 ∧ cn 6 ≤ 12 ∧ cn 9 ≤ 6 ∧ cn 12 ≤ 4 ∧ cn 14 ≤ 3) ∧ (cn 30 = cn 6 ∧ cn 31 = cn 12 ∧ cn 32 = cn 14) ∧ (∀ i, i < cn 6 → r 6 i = some (ad (i + 100))) ∧ (∀ i, i < cn 12 → r 12 i = some (ad (i + 300))) ∧ ∀ i, i < cn 14 → r 14 i = some (ad (i + 400))
theorem zup_id {f : zW} {k : Nat} {y : va_E} (h : f k = some y) : zup f k y = f := by
  funext j
  unfold zup
  by_cases e : j = k
  · rw [if_pos e, e, h]
  · rw [if_neg e]
theorem okK {i : Nat} (h : i < 4) : okKind (nI i) := ⟨nI_pos (by omega), nI_ge h (by decide)⟩
/-- the grams of a bale made of two, as far as i kinds -/
def mkG (g0 gy gz : Nat → Int64) (i : Nat) : Nat → Int64 := fun j => if j < i then g0 j + (gy j + gz j) else g0 j
theorem mkG_0 {g0 gy gz : Nat → Int64} : mkG g0 gy gz 0 = g0 := by
  funext j
  exact if_neg (Nat.not_lt_zero j)
theorem mkG_s {g0 gy gz : Nat → Int64} {i : Nat} : vp_updL (mkG g0 gy gz i) i (mkG g0 gy gz i i + (gy i + gz i)) = mkG g0 gy gz (i + 1) := by
  funext j
  unfold vp_updL mkG
  by_cases e : j = i
  · subst e
    simp
  · by_cases h : j < i
    · have : j < i + 1 := by omega
      simp [e, h, this]
    · have : ¬ j < i + 1 := by omega
      simp [e, h, this]
theorem kd_in {k : Int32} (h : okKind k) : vp_in k 4 := by
  obtain ⟨j, hj, e⟩ := nI_of h.1
  subst e
  exact vp_in_nI ((nI_ltI hj (by decide)).mp (Int32.not_le.mp h.2)) (by decide)
theorem kd_of {k : Int32} (h : okKind k) : ∃ j : Nat, j < 4 ∧ k = nI j := by
  obtain ⟨j, hj, e⟩ := nI_of h.1
  subst e
  exact ⟨j, (nI_ltI hj (by decide)).mp (Int32.not_le.mp h.2), rfl⟩
set_option maxHeartbeats 4000000 in
set_option maxRecDepth 100000 in
theorem b_gramsOf (l : Launch) (G : va_G) (cy : Nat → ClassId) (B : Nat) (ad : Nat → Nat) (f : zW) (k0 k1 : Nat) (t0 : UInt64) (a2 a3 a4 a5 a6 : Int32) (r7 r8 : Option Nat) (g0 : Nat → Int64) (hb : f k0 = some (.inr (1, [.ref (ad k1), .double t0, .int a2, .int a3, .int a4, .int a5, .int a6, va_rf r7, va_rf r8]))) (hg : f k1 = some (.inl (cy 0, 4, .inr (.inl g0)))) (kd : Int32) : Ct l G cy B yX0_gramsOf cX0_gramsOf 2 (some .long) ({ frames := 1, cells := 0, slots := 0, locals := 20 } : Room) ad f [.ref (ad k0), .int kd] (fun v ad' f' => v = some (.long (if okKind kd then g0 kd.toNatClampNeg else 0)) ∧ ad = ad' ∧ f = f') := by
  refine ct_of (by decide +kernel) (Nat.le_of_ble_eq_true rfl) ?_
  intro p e s m args below meth c X hnm
  refine z_lv (lv' := [(0, .ref (ad k0)), (1, .int kd)]) [0, 1] rfl ?_
  refine z_iload_n X 1 dX0_gramsOf_0 rfl rfl ?_
  refine z_callSN X (n := 1) (As := [.int kd]) (rest := []) (c_X3_isKind l G cy B ad f kd) (List.mem_of_getElem? (i := 11) rfl) q_139 q_24 q_140 (by decide +kernel) ⟨Nat.le_of_ble_eq_true rfl, Nat.le_of_ble_eq_true rfl⟩ rfl rfl (Nat.le_of_ble_eq_true rfl) dX0_gramsOf_1 ⟨Nat.le_of_ble_eq_true rfl, Nat.le_of_ble_eq_true rfl⟩ (fun v ad' f' hp had => ?_)
  obtain ⟨rfl, rfl, rfl⟩ := hp
  refine z_st (st' := [.int (nI (if okKind kd then 1 else 0))]) rfl ?_
  refine z_if_eqB X (tgt := 16) dX0_gramsOf_4 (by decide) (fun c4 => ?_) (fun c4 => ?_)
  · refine z_lconst X (v := 0) dX0_gramsOf_16 rfl ?_
    refine z_lret X (Nat.le_of_ble_eq_true rfl) (Nat.le_of_ble_eq_true rfl) ?_ dX0_gramsOf_17
    exact ⟨by first | rw [if_pos c4] | rw [if_neg c4], rfl, rfl⟩
  · refine z_aload_n X 0 dX0_gramsOf_7 rfl rfl ?_
    refine z_get X (v := .ref (ad k1)) k0 0 wa_X0 rfl rfl hb (by decide) q_156 rfl rfl dX0_gramsOf_8 ?_
    refine z_iload_n X 1 dX0_gramsOf_11 rfl rfl ?_
    refine z_lald X (n := 4) (g := g0) k1 rfl hg (kd_in c4) dX0_gramsOf_12 ?_
    refine z_goto X (tgt := 17) dX0_gramsOf_13 (by decide) ?_
    refine z_lret X (Nat.le_of_ble_eq_true rfl) (Nat.le_of_ble_eq_true rfl) ?_ dX0_gramsOf_17
    exact ⟨by first | rw [if_pos c4] | rw [if_neg c4], rfl, rfl⟩
set_option maxHeartbeats 4000000 in
set_option maxRecDepth 100000 in
theorem b_totalGrams (l : Launch) (G : va_G) (cy : Nat → ClassId) (B : Nat) (ad : Nat → Nat) (f : zW) (k0 k1 : Nat) (t0 : UInt64) (a2 a3 a4 a5 a6 : Int32) (r7 r8 : Option Nat) (g0 : Nat → Int64) (hb : f k0 = some (.inr (1, [.ref (ad k1), .double t0, .int a2, .int a3, .int a4, .int a5, .int a6, va_rf r7, va_rf r8]))) (hg : f k1 = some (.inl (cy 0, 4, .inr (.inl g0))))  : Ct l G cy B yX0_totalGrams cX0_totalGrams 4 (some .long) ({ frames := 0, cells := 0, slots := 0, locals := 0 } : Room) ad f [.ref (ad k0)] (fun v ad' f' => v = some (.long (sumL g0 4)) ∧ ad = ad' ∧ f = f') := by
  refine ct_of (by decide +kernel) (Nat.le_of_ble_eq_true rfl) ?_
  intro p e s m args below meth c X hnm
  refine z_lv (lv' := [(0, .ref (ad k0))]) [0] rfl ?_
  refine z_lconst X (v := 0) dX0_totalGrams_0 rfl ?_
  refine z_lstore_n X (lv' := [(1, .long 0), (0, .ref (ad k0))]) dX0_totalGrams_1 rfl (by decide) rfl ?_
  refine z_iconst X (v := nI 0) dX0_totalGrams_2 (by decide) ?_
  refine z_istore_n X (lv' := [(3, .int (nI 0)), (1, .long 0), (0, .ref (ad k0))]) dX0_totalGrams_3 rfl (by decide) rfl ?_
  refine z_lv (lv' := [(0, .ref (ad k0)), (1, .long 0), (3, .int (nI 0))]) [2, 1, 0] rfl ?_
  have lp4 : ∀ (fu4 : Nat) (i : Nat) (sv : Int64), (i ≤ 4) → (sv = sumL g0 i) → 5 ≤ i + fu4 → Z G B 4 ad f p l e ({ frames := 0, cells := 0, slots := 0, locals := 0 } : Room) s m args below meth c (zEnd G B ad f below args s ({ frames := 0, cells := 0, slots := 0, locals := 0 } : Room) (fun v ad' f' => v = some (.long (sumL g0 4)) ∧ ad = ad' ∧ f = f')) ad f 0 0 4 [(0, .ref (ad k0)), (1, .long sv), (3, .int (nI i))] [] := by
    intro fu4
    induction fu4 with
    | zero => intro i sv hi hs hm4; exact absurd hm4 (by omega)
    | succ fu4 ih4 =>
      intro i sv hi hs hm4
      refine z_iload_n X 2 dX0_totalGrams_4 rfl rfl ?_
      refine z_iconst X (v := nI 4) dX0_totalGrams_5 (by decide) ?_
      refine z_icmp_geN X (tgt := 24) (by omega) (by omega) dX0_totalGrams_6 (by decide) (fun c6 => ?_) (fun c6 => ?_)
      · have e9 : i = 4 := by omega
        rw [e9] at hs
        refine z_lload_n X 1 dX0_totalGrams_24 rfl rfl ?_
        refine z_lret X (Nat.le_of_ble_eq_true rfl) (Nat.le_of_ble_eq_true rfl) ?_ dX0_totalGrams_25
        exact ⟨by rw [hs], rfl, rfl⟩
      · refine z_lload_n X 1 dX0_totalGrams_9 rfl rfl ?_
        refine z_aload_n X 0 dX0_totalGrams_10 rfl rfl ?_
        refine z_get X (v := .ref (ad k1)) k0 0 wa_X0 rfl rfl hb (by decide) q_156 rfl rfl dX0_totalGrams_11 ?_
        refine z_iload_n X 2 dX0_totalGrams_14 rfl rfl ?_
        refine z_laldN X (n := 4) (g := g0) k1 rfl hg (by omega) (by decide) dX0_totalGrams_15 ?_
        refine z_ladd X dX0_totalGrams_16 ?_
        refine z_lstore_n X (lv' := [(1, .long (sv + (g0 i))), (0, .ref (ad k0)), (3, .int (nI i))]) dX0_totalGrams_17 rfl (by decide) rfl ?_
        refine z_iincN X 2 (k := 1) (lv' := [(3, .int (nI (i + 1))), (1, .long (sv + (g0 i))), (0, .ref (ad k0))]) dX0_totalGrams_18 rfl (by decide) (by decide) rfl ?_
        refine z_goto X (tgt := 4) dX0_totalGrams_21 (by decide) ?_
        refine z_lv (lv' := [(0, .ref (ad k0)), (1, .long (sv + (g0 i))), (3, .int (nI (i + 1)))]) [2, 1, 0] rfl ?_
        exact ih4 (i + 1) (sv + (g0 i)) (by omega) (by rw [hs]; rfl) (by omega)
  exact lp4 5 0 0 (by omega) (by rfl) (by omega)
set_option maxHeartbeats 4000000 in
set_option maxRecDepth 100000 in
theorem b_mainKind (l : Launch) (G : va_G) (cy : Nat → ClassId) (B : Nat) (ad : Nat → Nat) (f : zW) (k0 k1 : Nat) (t0 : UInt64) (a2 a3 a4 a5 a6 : Int32) (r7 r8 : Option Nat) (g0 : Nat → Int64) (hb : f k0 = some (.inr (1, [.ref (ad k1), .double t0, .int a2, .int a3, .int a4, .int a5, .int a6, va_rf r7, va_rf r8]))) (hg : f k1 = some (.inl (cy 0, 4, .inr (.inl g0))))  : Ct l G cy B yX0_mainKind cX0_mainKind 3 (some .int) ({ frames := 0, cells := 0, slots := 0, locals := 0 } : Room) ad f [.ref (ad k0)] (fun v ad' f' => v = some (.int (nI (mainL g0 3))) ∧ ad = ad' ∧ f = f') := by
  refine ct_of (by decide +kernel) (Nat.le_of_ble_eq_true rfl) ?_
  intro p e s m args below meth c X hnm
  refine z_lv (lv' := [(0, .ref (ad k0))]) [0] rfl ?_
  refine z_iconst X (v := nI 0) dX0_mainKind_0 (by decide) ?_
  refine z_istore_n X (lv' := [(1, .int (nI 0)), (0, .ref (ad k0))]) dX0_mainKind_1 rfl (by decide) rfl ?_
  refine z_iconst X (v := nI 1) dX0_mainKind_2 (by decide) ?_
  refine z_istore_n X (lv' := [(2, .int (nI 1)), (1, .int (nI 0)), (0, .ref (ad k0))]) dX0_mainKind_3 rfl (by decide) rfl ?_
  refine z_lv (lv' := [(0, .ref (ad k0)), (1, .int (nI 0)), (2, .int (nI 1))]) [2, 1, 0] rfl ?_
  have lp4 : ∀ (fu4 : Nat) (i mv : Nat), (i ≤ 3) → (mv ≤ i) → (mv = mainL g0 i) → 4 ≤ i + fu4 → Z G B 3 ad f p l e ({ frames := 0, cells := 0, slots := 0, locals := 0 } : Room) s m args below meth c (zEnd G B ad f below args s ({ frames := 0, cells := 0, slots := 0, locals := 0 } : Room) (fun v ad' f' => v = some (.int (nI (mainL g0 3))) ∧ ad = ad' ∧ f = f')) ad f 0 0 4 [(0, .ref (ad k0)), (1, .int (nI mv)), (2, .int (nI (i + 1)))] [] := by
    intro fu4
    induction fu4 with
    | zero => intro i mv hi hm hs hm4; exact absurd hm4 (by omega)
    | succ fu4 ih4 =>
      intro i mv hi hm hs hm4
      refine z_iload_n X 2 dX0_mainKind_4 rfl rfl ?_
      refine z_iconst X (v := nI 4) dX0_mainKind_5 (by decide) ?_
      refine z_icmp_geN X (tgt := 33) (by omega) (by omega) dX0_mainKind_6 (by decide) (fun c6 => ?_) (fun c6 => ?_)
      · have e9 : i = 3 := by omega
        rw [e9] at hs
        refine z_iload_n X 1 dX0_mainKind_33 rfl rfl ?_
        refine z_iret X (Nat.le_of_ble_eq_true rfl) (Nat.le_of_ble_eq_true rfl) ?_ dX0_mainKind_34
        exact ⟨by rw [hs], rfl, rfl⟩
      · refine z_aload_n X 0 dX0_mainKind_9 rfl rfl ?_
        refine z_get X (v := .ref (ad k1)) k0 0 wa_X0 rfl rfl hb (by decide) q_156 rfl rfl dX0_mainKind_10 ?_
        refine z_iload_n X 2 dX0_mainKind_13 rfl rfl ?_
        refine z_laldN X (n := 4) (g := g0) k1 rfl hg (by omega) (by decide) dX0_mainKind_14 ?_
        refine z_aload_n X 0 dX0_mainKind_15 rfl rfl ?_
        refine z_get X (v := .ref (ad k1)) k0 0 wa_X0 rfl rfl hb (by decide) q_156 rfl rfl dX0_mainKind_16 ?_
        refine z_iload_n X 1 dX0_mainKind_19 rfl rfl ?_
        refine z_laldN X (n := 4) (g := g0) k1 rfl hg (by omega) (by decide) dX0_mainKind_20 ?_
        refine z_lcmp_le X (tgt := 27) dX0_mainKind_21 dX0_mainKind_22 (by decide) (fun c21 => ?_) (fun c21 => ?_)
        · refine z_iincN X 2 (k := 1) (lv' := [(2, .int (nI (i + 1 + 1))), (0, .ref (ad k0)), (1, .int (nI mv))]) dX0_mainKind_27 rfl (by decide) (by decide) rfl ?_
          refine z_goto X (tgt := 4) dX0_mainKind_30 (by decide) ?_
          refine z_lv (lv' := [(0, .ref (ad k0)), (1, .int (nI mv)), (2, .int (nI (i + 1 + 1)))]) [1, 2, 0] rfl ?_
          exact ih4 (i + 1) mv (by omega) (by omega) (by subst hs; exact (if_neg (Int64.not_lt.mpr c21)).symm) (by omega)
        · refine z_iload_n X 2 dX0_mainKind_25 rfl rfl ?_
          refine z_istore_n X (lv' := [(1, .int (nI (i + 1))), (0, .ref (ad k0)), (2, .int (nI (i + 1)))]) dX0_mainKind_26 rfl (by decide) rfl ?_
          refine z_iincN X 2 (k := 1) (lv' := [(2, .int (nI (i + 1 + 1))), (1, .int (nI (i + 1))), (0, .ref (ad k0))]) dX0_mainKind_27 rfl (by decide) (by decide) rfl ?_
          refine z_goto X (tgt := 4) dX0_mainKind_30 (by decide) ?_
          refine z_lv (lv' := [(0, .ref (ad k0)), (1, .int (nI (i + 1))), (2, .int (nI (i + 1 + 1)))]) [2, 1, 0] rfl ?_
          exact ih4 (i + 1) (i + 1) (by omega) (by omega) (by subst hs; exact (if_pos (Int64.not_le.mp c21)).symm) (by omega)
  exact lp4 4 0 0 (by omega) (by omega) (by rfl) (by omega)
set_option maxHeartbeats 4000000 in
set_option maxRecDepth 100000 in
theorem b_isHot (l : Launch) (G : va_G) (cy : Nat → ClassId) (B : Nat) (ad : Nat → Nat) (f : zW) (k0 k1 : Nat) (t0 : UInt64) (a2 a3 a4 a5 a6 : Int32) (r7 r8 : Option Nat) (g0 : Nat → Int64) (hb : f k0 = some (.inr (1, [.ref (ad k1), .double t0, .int a2, .int a3, .int a4, .int a5, .int a6, va_rf r7, va_rf r8]))) (hg : f k1 = some (.inl (cy 0, 4, .inr (.inl g0))))  : Ct l G cy B yX0_isHot cX0_isHot 1 (some .boolean) ({ frames := 0, cells := 0, slots := 0, locals := 0 } : Room) ad f [.ref (ad k0)] (fun v ad' f' => v = some (.int (nI (if dGe t0 4633641066610819072 = true then 1 else 0))) ∧ ad = ad' ∧ f = f') := by
  refine ct_of (by decide +kernel) (Nat.le_of_ble_eq_true rfl) ?_
  intro p e s m args below meth c X hnm
  refine z_lv (lv' := [(0, .ref (ad k0))]) [0] rfl ?_
  refine z_aload_n X 0 dX0_isHot_0 rfl rfl ?_
  refine z_get X (v := .double t0) k0 1 wa_X0 rfl rfl hb (by decide) q_157 rfl rfl dX0_isHot_1 ?_
  refine z_ldc2d X dX0_isHot_4 q_257 ?_
  refine z_dcmp_lt X (tgt := 15) dX0_isHot_7 dX0_isHot_8 (by decide) (fun c7 => ?_) (fun c7 => ?_)
  · refine z_iconst X (v := nI 0) dX0_isHot_15 (by decide) ?_
    refine z_zret rfl X (Nat.le_of_ble_eq_true rfl) (Nat.le_of_ble_eq_true rfl) ?_ dX0_isHot_16
    exact ⟨by rw [c7]; rfl, rfl, rfl⟩
  · refine z_iconst X (v := nI 1) dX0_isHot_11 (by decide) ?_
    refine z_goto X (tgt := 16) dX0_isHot_12 (by decide) ?_
    refine z_zret rfl X (Nat.le_of_ble_eq_true rfl) (Nat.le_of_ble_eq_true rfl) ?_ dX0_isHot_16
    exact ⟨by rw [c7]; rfl, rfl, rfl⟩
set_option maxHeartbeats 4000000 in
set_option maxRecDepth 100000 in
theorem b_isGoneOrSold (l : Launch) (G : va_G) (cy : Nat → ClassId) (B : Nat) (ad : Nat → Nat) (f : zW) (k0 k1 : Nat) (t0 : UInt64) (a2 a3 a4 a5 a6 : Int32) (r7 r8 : Option Nat) (g0 : Nat → Int64) (hb : f k0 = some (.inr (1, [.ref (ad k1), .double t0, .int a2, .int a3, .int a4, .int a5, .int a6, va_rf r7, va_rf r8]))) (hg : f k1 = some (.inl (cy 0, 4, .inr (.inl g0))))  : Ct l G cy B yX0_isGoneOrSold cX0_isGoneOrSold 1 (some .boolean) ({ frames := 0, cells := 0, slots := 0, locals := 0 } : Room) ad f [.ref (ad k0)] (fun v ad' f' => v = some (.int (nI (if a4 = nI 3 ∨ a4 = nI 2 then 1 else 0))) ∧ ad = ad' ∧ f = f') := by
  refine ct_of (by decide +kernel) (Nat.le_of_ble_eq_true rfl) ?_
  intro p e s m args below meth c X hnm
  refine z_lv (lv' := [(0, .ref (ad k0))]) [0] rfl ?_
  refine z_aload_n X 0 dX0_isGoneOrSold_0 rfl rfl ?_
  refine z_get X (v := .int a4) k0 4 wa_X0 rfl rfl hb (by decide) q_160 rfl rfl dX0_isGoneOrSold_1 ?_
  refine z_iconst X (v := nI 3) dX0_isGoneOrSold_4 (by decide) ?_
  refine z_icmp_eq X (tgt := 16) dX0_isGoneOrSold_5 (by decide) (fun c5 => ?_) (fun c5 => ?_)
  · refine z_iconst X (v := nI 1) dX0_isGoneOrSold_16 (by decide) ?_
    refine z_goto X (tgt := 21) dX0_isGoneOrSold_17 (by decide) ?_
    refine z_zret rfl X (Nat.le_of_ble_eq_true rfl) (Nat.le_of_ble_eq_true rfl) ?_ dX0_isGoneOrSold_21
    exact ⟨by rw [if_pos (Or.inl c5)], rfl, rfl⟩
  · refine z_aload_n X 0 dX0_isGoneOrSold_8 rfl rfl ?_
    refine z_get X (v := .int a4) k0 4 wa_X0 rfl rfl hb (by decide) q_160 rfl rfl dX0_isGoneOrSold_9 ?_
    refine z_iconst X (v := nI 2) dX0_isGoneOrSold_12 (by decide) ?_
    refine z_icmp_ne X (tgt := 20) dX0_isGoneOrSold_13 (by decide) (fun c13 => ?_) (fun c13 => ?_)
    · refine z_iconst X (v := nI 0) dX0_isGoneOrSold_20 (by decide) ?_
      refine z_zret rfl X (Nat.le_of_ble_eq_true rfl) (Nat.le_of_ble_eq_true rfl) ?_ dX0_isGoneOrSold_21
      exact ⟨by rw [if_neg (fun h => h.elim c5 c13)], rfl, rfl⟩
    · refine z_iconst X (v := nI 1) dX0_isGoneOrSold_16 (by decide) ?_
      refine z_goto X (tgt := 21) dX0_isGoneOrSold_17 (by decide) ?_
      refine z_zret rfl X (Nat.le_of_ble_eq_true rfl) (Nat.le_of_ble_eq_true rfl) ?_ dX0_isGoneOrSold_21
      exact ⟨by rw [if_pos (Or.inr c13)], rfl, rfl⟩
set_option maxHeartbeats 4000000 in
set_option maxRecDepth 100000 in
theorem b_standsOn (l : Launch) (G : va_G) (cy : Nat → ClassId) (B : Nat) (ad : Nat → Nat) (f : zW) (k0 k1 : Nat) (t0 : UInt64) (a2 a3 a4 a5 a6 : Int32) (r7 r8 : Option Nat) (g0 : Nat → Int64) (hb : f k0 = some (.inr (1, [.ref (ad k1), .double t0, .int a2, .int a3, .int a4, .int a5, .int a6, va_rf r7, va_rf r8]))) (hg : f k1 = some (.inl (cy 0, 4, .inr (.inl g0)))) (sn : Int32) : Ct l G cy B yX0_standsOn cX0_standsOn 2 (some .boolean) ({ frames := 0, cells := 0, slots := 0, locals := 0 } : Room) ad f [.ref (ad k0), .int sn] (fun v ad' f' => v = some (.int (nI (if a4 = nI 1 ∧ a5 = sn then 1 else 0))) ∧ ad = ad' ∧ f = f') := by
  refine ct_of (by decide +kernel) (Nat.le_of_ble_eq_true rfl) ?_
  intro p e s m args below meth c X hnm
  refine z_lv (lv' := [(0, .ref (ad k0)), (1, .int sn)]) [0, 1] rfl ?_
  refine z_aload_n X 0 dX0_standsOn_0 rfl rfl ?_
  refine z_get X (v := .int a4) k0 4 wa_X0 rfl rfl hb (by decide) q_160 rfl rfl dX0_standsOn_1 ?_
  refine z_iconst X (v := nI 1) dX0_standsOn_4 (by decide) ?_
  refine z_icmp_ne X (tgt := 20) dX0_standsOn_5 (by decide) (fun c5 => ?_) (fun c5 => ?_)
  · refine z_iconst X (v := nI 0) dX0_standsOn_20 (by decide) ?_
    refine z_zret rfl X (Nat.le_of_ble_eq_true rfl) (Nat.le_of_ble_eq_true rfl) ?_ dX0_standsOn_21
    exact ⟨by rw [if_neg (fun h => c5 h.1)], rfl, rfl⟩
  · refine z_aload_n X 0 dX0_standsOn_8 rfl rfl ?_
    refine z_get X (v := .int a5) k0 5 wa_X0 rfl rfl hb (by decide) q_161 rfl rfl dX0_standsOn_9 ?_
    refine z_iload_n X 1 dX0_standsOn_12 rfl rfl ?_
    refine z_icmp_ne X (tgt := 20) dX0_standsOn_13 (by decide) (fun c13 => ?_) (fun c13 => ?_)
    · refine z_iconst X (v := nI 0) dX0_standsOn_20 (by decide) ?_
      refine z_zret rfl X (Nat.le_of_ble_eq_true rfl) (Nat.le_of_ble_eq_true rfl) ?_ dX0_standsOn_21
      exact ⟨by rw [if_neg (fun h => c13 h.2)], rfl, rfl⟩
    · refine z_iconst X (v := nI 1) dX0_standsOn_16 (by decide) ?_
      refine z_goto X (tgt := 21) dX0_standsOn_17 (by decide) ?_
      refine z_zret rfl X (Nat.le_of_ble_eq_true rfl) (Nat.le_of_ble_eq_true rfl) ?_ dX0_standsOn_21
      exact ⟨by rw [if_pos ⟨c5, c13⟩], rfl, rfl⟩
set_option maxHeartbeats 4000000 in
set_option maxRecDepth 100000 in
theorem b_addGrams (l : Launch) (G : va_G) (cy : Nat → ClassId) (B : Nat) (ad : Nat → Nat) (f : zW) (k0 k1 : Nat) (t0 : UInt64) (a2 a3 a4 a5 a6 : Int32) (r7 r8 : Option Nat) (g0 : Nat → Int64) (hb : f k0 = some (.inr (1, [.ref (ad k1), .double t0, .int a2, .int a3, .int a4, .int a5, .int a6, va_rf r7, va_rf r8]))) (hg : f k1 = some (.inl (cy 0, 4, .inr (.inl g0)))) (kd : Int32) (mg : Int64) (hk : okKind kd) : Ct l G cy B yX0_addGrams cX0_addGrams 4 none ({ frames := 1, cells := 0, slots := 0, locals := 20 } : Room) ad f [.ref (ad k0), .int kd, .long mg] (fun v ad' f' => v = none ∧ ad = ad' ∧ zup f k1 (.inl (cy 0, 4, .inr (.inl (vp_updL g0 kd.toNatClampNeg (g0 kd.toNatClampNeg + mg))))) = f') := by
  refine ct_of (by decide +kernel) (Nat.le_of_ble_eq_true rfl) ?_
  intro p e s m args below meth c X hnm
  refine z_lv (lv' := [(0, .ref (ad k0)), (1, .int kd), (2, .long mg)]) [0, 1, 2] rfl ?_
  refine z_iload_n X 1 dX0_addGrams_0 rfl rfl ?_
  refine z_callSN X (n := 1) (As := [.int kd]) (rest := []) (c_X3_isKind l G cy B ad f kd) (List.mem_of_getElem? (i := 11) rfl) q_139 q_24 q_140 (by decide +kernel) ⟨Nat.le_of_ble_eq_true rfl, Nat.le_of_ble_eq_true rfl⟩ rfl rfl (Nat.le_of_ble_eq_true rfl) dX0_addGrams_1 ⟨Nat.le_of_ble_eq_true rfl, Nat.le_of_ble_eq_true rfl⟩ (fun v ad' f' hp had => ?_)
  obtain ⟨rfl, rfl, rfl⟩ := hp
  refine z_st (st' := [.int (nI (if okKind kd then 1 else 0))]) rfl ?_
  refine z_if_eqB X (tgt := 17) dX0_addGrams_4 (by decide) (fun c4 => by exfalso; exact c4 hk) (fun c4 => ?_)
  refine z_aload_n X 0 dX0_addGrams_7 rfl rfl ?_
  refine z_get X (v := .ref (ad k1)) k0 0 wa_X0 rfl rfl hb (by decide) q_156 rfl rfl dX0_addGrams_8 ?_
  refine z_iload_n X 1 dX0_addGrams_11 rfl rfl ?_
  refine z_dup2_11 X dX0_addGrams_12 rfl rfl ?_
  refine z_lald X (n := 4) (g := g0) k1 rfl hg (kd_in hk) dX0_addGrams_13 ?_
  refine z_lload_n X 2 dX0_addGrams_14 rfl rfl ?_
  refine z_ladd X dX0_addGrams_15 ?_
  refine z_last X (n := 4) (g := g0) k1 rfl hg (kd_in hk) dX0_addGrams_16 ?_
  refine z_vret X (Nat.le_of_ble_eq_true rfl) (Nat.le_of_ble_eq_true rfl) ?_ dX0_addGrams_17
  exact ⟨rfl, rfl, rfl⟩
set_option maxHeartbeats 4000000 in
set_option maxRecDepth 100000 in
theorem b_passHour (l : Launch) (G : va_G) (cy : Nat → ClassId) (B : Nat) (ad : Nat → Nat) (f : zW) (k0 k1 : Nat) (t0 : UInt64) (a2 a3 a4 a5 a6 : Int32) (r7 r8 : Option Nat) (g0 : Nat → Int64) (hb : f k0 = some (.inr (1, [.ref (ad k1), .double t0, .int a2, .int a3, .int a4, .int a5, .int a6, va_rf r7, va_rf r8]))) (hg : f k1 = some (.inl (cy 0, 4, .inr (.inl g0)))) (hne : k0 ≠ k1) (gn o : UInt64) : Ct l G cy B yX0_passHour cX0_passHour 5 none ({ frames := 1, cells := 0, slots := 0, locals := 20 } : Room) ad f [.ref (ad k0), .double gn, .double o] (fun v ad' f' => v = none ∧ ad = ad' ∧ ∃ t9, stepR gn o t0 t9 ∧ zup f k0 (.inr (1, [.ref (ad k1), .double t9, .int (if dGe t9 4633641066610819072 = true then a2 + nI 1 else nI 0), .int (if a3 < (if dGe t9 4633641066610819072 = true then a2 + nI 1 else nI 0) then (if dGe t9 4633641066610819072 = true then a2 + nI 1 else nI 0) else a3), .int a4, .int a5, .int a6, va_rf r7, va_rf r8])) = f') := by
  refine ct_of (by decide +kernel) (Nat.le_of_ble_eq_true rfl) ?_
  intro p e s m args below meth c X hnm
  refine z_lv (lv' := [(0, .ref (ad k0)), (1, .double gn), (3, .double o)]) [0, 1, 2] rfl ?_
  refine z_aload_n X 0 dX0_passHour_0 rfl rfl ?_
  refine z_aload_n X 0 dX0_passHour_1 rfl rfl ?_
  refine z_get X (v := .double t0) k0 1 wa_X0 rfl rfl hb (by decide) q_157 rfl rfl dX0_passHour_2 ?_
  refine z_dload_n X 1 dX0_passHour_5 rfl rfl ?_
  refine z_dadd X dX0_passHour_6 (fun r6 hr6 => ?_)
  refine z_aload_n X 0 dX0_passHour_7 rfl rfl ?_
  refine z_get X (v := .double t0) k0 1 wa_X0 rfl rfl hb (by decide) q_157 rfl rfl dX0_passHour_8 ?_
  refine z_dload_n X 2 dX0_passHour_11 rfl rfl ?_
  refine z_dsub X dX0_passHour_12 (fun r12 hr12 => ?_)
  refine z_ldc2d X dX0_passHour_13 q_252 ?_
  refine z_dmul X dX0_passHour_16 (fun r16 hr16 => ?_)
  refine z_dsub X dX0_passHour_17 (fun r17 hr17 => ?_)
  refine z_put X (ty := .double) k0 1 wa_X0 tyX0 tyX0_ok nmX0 rfl rfl hb (by decide) q_157 rfl rfl (by decide +kernel) rfl rfl (Nat.le_of_ble_eq_true rfl) dX0_passHour_18 ?_
  refine z_aload_n X 0 dX0_passHour_21 rfl rfl ?_
  refine z_aload_n X 0 dX0_passHour_22 rfl rfl ?_
  refine z_callV X (n := 0) (As := []) (rest := [.ref (ad k0)]) k0 rfl zup_same rfl (b_isHot l G cy B ad (zup f k0 (.inr (1, [.ref (ad k1), .double r17, .int a2, .int a3, .int a4, .int a5, .int a6, va_rf r7, va_rf r8]))) k0 k1 r17 a2 a3 a4 a5 a6 r7 r8 g0 zup_same ((zup_ne hne.symm).trans hg)) q_253 q_254 q_255 q_30 q_256 (by decide +kernel) ⟨Nat.le_of_ble_eq_true rfl, Nat.le_of_ble_eq_true rfl⟩ rfl rfl (Nat.le_of_ble_eq_true rfl) dX0_passHour_23 ⟨Nat.le_of_ble_eq_true rfl, Nat.le_of_ble_eq_true rfl⟩ (fun v ad' f' hp had => ?_)
  obtain ⟨rfl, rfl, rfl⟩ := hp
  refine z_st (st' := [.int (nI (if dGe r17 4633641066610819072 = true then 1 else 0)), .ref (ad k0)]) rfl ?_
  refine z_if_eqB X (tgt := 38) dX0_passHour_26 (by decide) (fun c26 => ?_) (fun c26 => ?_)
  · refine z_iconst X (v := nI 0) dX0_passHour_38 (by decide) ?_
    refine z_put X (ty := .int) k0 2 wa_X0 tyX0 tyX0_ok nmX0 rfl rfl zup_same (by decide) q_158 rfl rfl (by decide +kernel) rfl rfl (Nat.le_of_ble_eq_true rfl) dX0_passHour_39 ?_
    refine z_f zup_zup ?_
    refine z_aload_n X 0 dX0_passHour_42 rfl rfl ?_
    refine z_aload_n X 0 dX0_passHour_43 rfl rfl ?_
    refine z_get X (v := .int a3) k0 3 wa_X0 rfl rfl zup_same (by decide) q_159 rfl rfl dX0_passHour_44 ?_
    refine z_aload_n X 0 dX0_passHour_47 rfl rfl ?_
    refine z_get X (v := .int (nI 0)) k0 2 wa_X0 rfl rfl zup_same (by decide) q_158 rfl rfl dX0_passHour_48 ?_
    refine z_mmax X q_258 q_259 q_31 q_260 (Nat.le_of_ble_eq_true rfl) (Nat.le_of_ble_eq_true rfl) (Nat.le_of_ble_eq_true rfl) (Nat.le_of_ble_eq_true rfl) dX0_passHour_51 ?_
    refine z_put X (ty := .int) k0 3 wa_X0 tyX0 tyX0_ok nmX0 rfl rfl zup_same (by decide) q_159 rfl rfl (by decide +kernel) rfl rfl (Nat.le_of_ble_eq_true rfl) dX0_passHour_54 ?_
    refine z_f zup_zup ?_
    refine z_vret X (Nat.le_of_ble_eq_true rfl) (Nat.le_of_ble_eq_true rfl) ?_ dX0_passHour_57
    refine ⟨rfl, rfl, r17, ⟨r6, r12, r16, hr6, hr12, hr16, hr17⟩, ?_⟩
    rw [if_neg c26]; rfl
  · refine z_aload_n X 0 dX0_passHour_29 rfl rfl ?_
    refine z_get X (v := .int a2) k0 2 wa_X0 rfl rfl zup_same (by decide) q_158 rfl rfl dX0_passHour_30 ?_
    refine z_iconst X (v := nI 1) dX0_passHour_33 (by decide) ?_
    refine z_iadd X dX0_passHour_34 ?_
    refine z_goto X (tgt := 39) dX0_passHour_35 (by decide) ?_
    refine z_put X (ty := .int) k0 2 wa_X0 tyX0 tyX0_ok nmX0 rfl rfl zup_same (by decide) q_158 rfl rfl (by decide +kernel) rfl rfl (Nat.le_of_ble_eq_true rfl) dX0_passHour_39 ?_
    refine z_f zup_zup ?_
    refine z_aload_n X 0 dX0_passHour_42 rfl rfl ?_
    refine z_aload_n X 0 dX0_passHour_43 rfl rfl ?_
    refine z_get X (v := .int a3) k0 3 wa_X0 rfl rfl zup_same (by decide) q_159 rfl rfl dX0_passHour_44 ?_
    refine z_aload_n X 0 dX0_passHour_47 rfl rfl ?_
    refine z_get X (v := .int (a2 + (nI 1))) k0 2 wa_X0 rfl rfl zup_same (by decide) q_158 rfl rfl dX0_passHour_48 ?_
    refine z_mmax X q_258 q_259 q_31 q_260 (Nat.le_of_ble_eq_true rfl) (Nat.le_of_ble_eq_true rfl) (Nat.le_of_ble_eq_true rfl) (Nat.le_of_ble_eq_true rfl) dX0_passHour_51 ?_
    refine z_put X (ty := .int) k0 3 wa_X0 tyX0 tyX0_ok nmX0 rfl rfl zup_same (by decide) q_159 rfl rfl (by decide +kernel) rfl rfl (Nat.le_of_ble_eq_true rfl) dX0_passHour_54 ?_
    refine z_f zup_zup ?_
    refine z_vret X (Nat.le_of_ble_eq_true rfl) (Nat.le_of_ble_eq_true rfl) ?_ dX0_passHour_57
    refine ⟨rfl, rfl, r17, ⟨r6, r12, r16, hr6, hr12, hr16, hr17⟩, ?_⟩
    rw [if_pos c26]; rfl
set_option maxHeartbeats 4000000 in
set_option maxRecDepth 100000 in
theorem b_makeOf (l : Launch) (G : va_G) (cy : Nat → ClassId) (B : Nat) (ad : Nat → Nat) (f : zW) (k0 k1 : Nat) (t0 : UInt64) (a2 a3 a4 a5 a6 : Int32) (r7 r8 : Option Nat) (g0 : Nat → Int64) (hb : f k0 = some (.inr (1, [.ref (ad k1), .double t0, .int a2, .int a3, .int a4, .int a5, .int a6, va_rf r7, va_rf r8]))) (hg : f k1 = some (.inl (cy 0, 4, .inr (.inl g0)))) (hne : k0 ≠ k1) (p0 p1 q0 q1 : Nat) (np0k0 : p0 ≠ k0) (np1k0 : p1 ≠ k0) (nq0k0 : q0 ≠ k0) (nq1k0 : q1 ≠ k0) (np0k1 : p0 ≠ k1) (np1k1 : p1 ≠ k1) (nq0k1 : q0 ≠ k1) (nq1k1 : q1 ≠ k1) (yt : UInt64) (y2 y3 y4 y5 y6 : Int32) (y7 y8 : Option Nat) (gy : Nat → Int64) (hy : f p0 = some (.inr (1, [.ref (ad p1), .double yt, .int y2, .int y3, .int y4, .int y5, .int y6, va_rf y7, va_rf y8]))) (hgy : f p1 = some (.inl (cy 0, 4, .inr (.inl gy)))) (zt : UInt64) (z2 z3 z4 z5 z6 : Int32) (z7 z8 : Option Nat) (gz : Nat → Int64) (hz : f q0 = some (.inr (1, [.ref (ad q1), .double zt, .int z2, .int z3, .int z4, .int z5, .int z6, va_rf z7, va_rf z8]))) (hgz : f q1 = some (.inl (cy 0, 4, .inr (.inl gz)))) : Ct l G cy B yX0_makeOf cX0_makeOf 4 none ({ frames := 2, cells := 0, slots := 0, locals := 43 } : Room) ad f [.ref (ad k0), .ref (ad p0), .ref (ad q0)] (fun v ad' f' => v = none ∧ ad = ad' ∧ zup (zup f k1 (.inl (cy 0, 4, .inr (.inl (mkG g0 gy gz 4))))) k0 (.inr (1, [.ref (ad k1), .double (if dGe yt zt = true then yt else zt), .int a2, .int a3, .int a4, .int a5, .int a6, .ref (ad p0), .ref (ad q0)])) = f') := by
  refine ct_of (by decide +kernel) (Nat.le_of_ble_eq_true rfl) ?_
  intro p e s m args below meth c X hnm
  refine z_lv (lv' := [(0, .ref (ad k0)), (1, .ref (ad p0)), (2, .ref (ad q0))]) [0, 1, 2] rfl ?_
  refine z_aload_n X 1 dX0_makeOf_0 rfl rfl ?_
  refine z_ifnull X dX0_makeOf_1 ?_
  refine z_aload_n X 2 dX0_makeOf_4 rfl rfl ?_
  refine z_ifnonnull X (tgt := 9) dX0_makeOf_5 (by decide) ?_
  refine z_iconst X (v := nI 0) dX0_makeOf_9 (by decide) ?_
  refine z_istore_n X (lv' := [(3, .int (nI 0)), (0, .ref (ad k0)), (1, .ref (ad p0)), (2, .ref (ad q0))]) dX0_makeOf_10 rfl (by decide) rfl ?_
  refine z_lv (lv' := [(0, .ref (ad k0)), (1, .ref (ad p0)), (2, .ref (ad q0)), (3, .int (nI 0))]) [1, 2, 3, 0] rfl ?_
  have lp11 : ∀ (fu11 : Nat) (i : Nat), (i ≤ 4) → 5 ≤ i + fu11 → Z G B 4 ad f p l e ({ frames := 2, cells := 0, slots := 0, locals := 43 } : Room) s m args below meth c (zEnd G B ad f below args s ({ frames := 2, cells := 0, slots := 0, locals := 43 } : Room) (fun v ad' f' => v = none ∧ ad = ad' ∧ zup (zup f k1 (.inl (cy 0, 4, .inr (.inl (mkG g0 gy gz 4))))) k0 (.inr (1, [.ref (ad k1), .double (if dGe yt zt = true then yt else zt), .int a2, .int a3, .int a4, .int a5, .int a6, .ref (ad p0), .ref (ad q0)])) = f')) ad (zup f k1 (.inl (cy 0, 4, .inr (.inl (mkG g0 gy gz i))))) 0 0 11 [(0, .ref (ad k0)), (1, .ref (ad p0)), (2, .ref (ad q0)), (3, .int (nI i))] [] := by
    intro fu11
    induction fu11 with
    | zero => intro i hi hm11; exact absurd hm11 (by omega)
    | succ fu11 ih11 =>
      intro i hi hm11
      refine z_iload_n X 3 dX0_makeOf_11 rfl rfl ?_
      refine z_iconst X (v := nI 4) dX0_makeOf_12 (by decide) ?_
      refine z_icmp_geN X (tgt := 38) (by omega) (by omega) dX0_makeOf_13 (by decide) (fun c13 => ?_) (fun c13 => ?_)
      · have e9 : i = 4 := by omega
        subst e9
        refine z_aload_n X 0 dX0_makeOf_38 rfl rfl ?_
        refine z_aload_n X 1 dX0_makeOf_39 rfl rfl ?_
        refine z_get X (v := .double yt) p0 1 wa_X0 rfl rfl ((zup_ne np0k1).trans hy) (by decide) q_157 rfl rfl dX0_makeOf_40 ?_
        refine z_aload_n X 2 dX0_makeOf_43 rfl rfl ?_
        refine z_get X (v := .double zt) q0 1 wa_X0 rfl rfl ((zup_ne nq0k1).trans hz) (by decide) q_157 rfl rfl dX0_makeOf_44 ?_
        refine z_dcmp_lt X (tgt := 58) dX0_makeOf_47 dX0_makeOf_48 (by decide) (fun c47 => ?_) (fun c47 => ?_)
        · refine z_aload_n X 2 dX0_makeOf_58 rfl rfl ?_
          refine z_get X (v := .double zt) q0 1 wa_X0 rfl rfl ((zup_ne nq0k1).trans hz) (by decide) q_157 rfl rfl dX0_makeOf_59 ?_
          refine z_put X (ty := .double) k0 1 wa_X0 tyX0 tyX0_ok nmX0 rfl rfl ((zup_ne hne).trans hb) (by decide) q_157 rfl rfl (by decide +kernel) rfl rfl (Nat.le_of_ble_eq_true rfl) dX0_makeOf_62 ?_
          refine z_aload_n X 0 dX0_makeOf_65 rfl rfl ?_
          refine z_aload_n X 1 dX0_makeOf_66 rfl rfl ?_
          refine z_put X (ty := .object "BalePress$Bale") k0 7 wa_X0 tyX0 tyX0_ok nmX0 rfl rfl zup_same (by decide) q_162 rfl rfl (by decide +kernel) rfl rfl (Nat.le_of_ble_eq_true rfl) dX0_makeOf_67 ?_
          refine z_f zup_zup ?_
          refine z_aload_n X 0 dX0_makeOf_70 rfl rfl ?_
          refine z_aload_n X 2 dX0_makeOf_71 rfl rfl ?_
          refine z_put X (ty := .object "BalePress$Bale") k0 8 wa_X0 tyX0 tyX0_ok nmX0 rfl rfl zup_same (by decide) q_163 rfl rfl (by decide +kernel) rfl rfl (Nat.le_of_ble_eq_true rfl) dX0_makeOf_72 ?_
          refine z_f zup_zup ?_
          refine z_vret X (Nat.le_of_ble_eq_true rfl) (Nat.le_of_ble_eq_true rfl) ?_ dX0_makeOf_75
          exact ⟨rfl, rfl, by rw [if_neg (by rw [c47]; exact Bool.false_ne_true)]; rfl⟩
        · refine z_aload_n X 1 dX0_makeOf_51 rfl rfl ?_
          refine z_get X (v := .double yt) p0 1 wa_X0 rfl rfl ((zup_ne np0k1).trans hy) (by decide) q_157 rfl rfl dX0_makeOf_52 ?_
          refine z_goto X (tgt := 62) dX0_makeOf_55 (by decide) ?_
          refine z_put X (ty := .double) k0 1 wa_X0 tyX0 tyX0_ok nmX0 rfl rfl ((zup_ne hne).trans hb) (by decide) q_157 rfl rfl (by decide +kernel) rfl rfl (Nat.le_of_ble_eq_true rfl) dX0_makeOf_62 ?_
          refine z_aload_n X 0 dX0_makeOf_65 rfl rfl ?_
          refine z_aload_n X 1 dX0_makeOf_66 rfl rfl ?_
          refine z_put X (ty := .object "BalePress$Bale") k0 7 wa_X0 tyX0 tyX0_ok nmX0 rfl rfl zup_same (by decide) q_162 rfl rfl (by decide +kernel) rfl rfl (Nat.le_of_ble_eq_true rfl) dX0_makeOf_67 ?_
          refine z_f zup_zup ?_
          refine z_aload_n X 0 dX0_makeOf_70 rfl rfl ?_
          refine z_aload_n X 2 dX0_makeOf_71 rfl rfl ?_
          refine z_put X (ty := .object "BalePress$Bale") k0 8 wa_X0 tyX0 tyX0_ok nmX0 rfl rfl zup_same (by decide) q_163 rfl rfl (by decide +kernel) rfl rfl (Nat.le_of_ble_eq_true rfl) dX0_makeOf_72 ?_
          refine z_f zup_zup ?_
          refine z_vret X (Nat.le_of_ble_eq_true rfl) (Nat.le_of_ble_eq_true rfl) ?_ dX0_makeOf_75
          exact ⟨rfl, rfl, by rw [if_pos c47]; rfl⟩
      · refine z_aload_n X 0 dX0_makeOf_16 rfl rfl ?_
        refine z_iload_n X 3 dX0_makeOf_17 rfl rfl ?_
        refine z_aload_n X 1 dX0_makeOf_18 rfl rfl ?_
        refine z_iload_n X 3 dX0_makeOf_19 rfl rfl ?_
        refine z_callV X (n := 1) (As := [.int (nI i)]) (rest := [.int (nI i), .ref (ad k0)]) p0 rfl ((zup_ne np0k1).trans hy) rfl (b_gramsOf l G cy B ad (zup f k1 (.inl (cy 0, 4, .inr (.inl (mkG g0 gy gz i))))) p0 p1 yt y2 y3 y4 y5 y6 y7 y8 gy ((zup_ne np0k1).trans hy) ((zup_ne np1k1).trans hgy) (nI i)) q_382 q_199 q_200 q_30 q_201 (by decide +kernel) ⟨Nat.le_of_ble_eq_true rfl, Nat.le_of_ble_eq_true rfl⟩ rfl rfl (Nat.le_of_ble_eq_true rfl) dX0_makeOf_20 ⟨Nat.le_of_ble_eq_true rfl, Nat.le_of_ble_eq_true rfl⟩ (fun v ad' f' hp had => ?_)
        obtain ⟨rfl, rfl, rfl⟩ := hp
        refine z_st (st' := [.long (if okKind (nI i) then gy (nI i).toNatClampNeg else 0), .int (nI i), .ref (ad k0)]) rfl ?_
        refine z_top (v' := .long (gy i)) (by rw [if_pos (okK (by omega)), nI_clamp (by omega)]) ?_
        refine z_aload_n X 2 dX0_makeOf_23 rfl rfl ?_
        refine z_iload_n X 3 dX0_makeOf_24 rfl rfl ?_
        refine z_callV X (n := 1) (As := [.int (nI i)]) (rest := [.long (gy i), .int (nI i), .ref (ad k0)]) q0 rfl ((zup_ne nq0k1).trans hz) rfl (b_gramsOf l G cy B ad (zup f k1 (.inl (cy 0, 4, .inr (.inl (mkG g0 gy gz i))))) q0 q1 zt z2 z3 z4 z5 z6 z7 z8 gz ((zup_ne nq0k1).trans hz) ((zup_ne nq1k1).trans hgz) (nI i)) q_382 q_199 q_200 q_30 q_201 (by decide +kernel) ⟨Nat.le_of_ble_eq_true rfl, Nat.le_of_ble_eq_true rfl⟩ rfl rfl (Nat.le_of_ble_eq_true rfl) dX0_makeOf_25 ⟨Nat.le_of_ble_eq_true rfl, Nat.le_of_ble_eq_true rfl⟩ (fun v ad' f' hp had => ?_)
        obtain ⟨rfl, rfl, rfl⟩ := hp
        refine z_st (st' := [.long (if okKind (nI i) then gz (nI i).toNatClampNeg else 0), .long (gy i), .int (nI i), .ref (ad k0)]) rfl ?_
        refine z_top (v' := .long (gz i)) (by rw [if_pos (okK (by omega)), nI_clamp (by omega)]) ?_
        refine z_ladd X dX0_makeOf_28 ?_
        refine z_callV X (n := 2) (As := [.int (nI i), .long ((gy i) + (gz i))]) (rest := []) k0 rfl ((zup_ne hne).trans hb) rfl (b_addGrams l G cy B ad (zup f k1 (.inl (cy 0, 4, .inr (.inl (mkG g0 gy gz i))))) k0 k1 t0 a2 a3 a4 a5 a6 r7 r8 (mkG g0 gy gz i) ((zup_ne hne).trans hb) zup_same (nI i) (gy i + gz i) (okK (by omega))) q_383 q_184 q_185 q_30 q_186 (by decide +kernel) ⟨Nat.le_of_ble_eq_true rfl, Nat.le_of_ble_eq_true rfl⟩ rfl rfl (Nat.le_of_ble_eq_true rfl) dX0_makeOf_29 ⟨Nat.le_of_ble_eq_true rfl, Nat.le_of_ble_eq_true rfl⟩ (fun v ad' f' hp had => ?_)
        obtain ⟨rfl, rfl, rfl⟩ := hp
        refine z_st (st' := []) rfl ?_
        refine z_f (show _ = zup f k1 (.inl (cy 0, 4, .inr (.inl (mkG g0 gy gz (i + 1))))) from by rw [zup_zup, nI_clamp (by omega), mkG_s]) ?_
        refine z_iincN X 3 (k := 1) (lv' := [(3, .int (nI (i + 1))), (0, .ref (ad k0)), (1, .ref (ad p0)), (2, .ref (ad q0))]) dX0_makeOf_32 rfl (by decide) (by decide) rfl ?_
        refine z_goto X (tgt := 11) dX0_makeOf_35 (by decide) ?_
        refine z_lv (lv' := [(0, .ref (ad k0)), (1, .ref (ad p0)), (2, .ref (ad q0)), (3, .int (nI (i + 1)))]) [1, 2, 3, 0] rfl ?_
        exact ih11 (i + 1) (by omega) (by omega)
  refine z_f (show f = zup f k1 (.inl (cy 0, 4, .inr (.inl (mkG g0 gy gz 0)))) from (by rw [mkG_0]; exact (zup_id hg).symm)) ?_
  exact lp11 5 0 (by omega) (by omega)
set_option maxHeartbeats 4000000 in
set_option maxRecDepth 100000 in
theorem b_init (l : Launch) (G : va_G) (cy : Nat → ClassId) (B : Nat) (ad : Nat → Nat) (f : zW) (k0 k1 : Nat) (hne : k0 ≠ k1) (hb : f k0 = some (.inr (1, [.null, .double 0, .int 0, .int 0, .int 0, .int 0, .int 0, .null, .null]))) (hn1 : f k1 = none) : Ct l G cy B yX0_init cX0_init 1 none ({ frames := 1, cells := 1, slots := 4, locals := 12 } : Room) ad f [.ref (ad k0)] (fun v ad' f' => v = none ∧ ∃ a9, zad ad k1 a9 = ad' ∧ zup (zup f k1 (.inl (cy 0, 4, .inr (.inl (fun _ => 0))))) k0 (.inr (1, [.ref a9, .double 4626322717216342016, .int 0, .int 0, .int (nI 0), .int (-1), .int 0, .null, .null])) = f') := by
  refine ct_of (by decide +kernel) (Nat.le_of_ble_eq_true rfl) ?_
  intro p e s m args below meth c X hnm
  refine z_lv (lv' := [(0, .ref (ad k0))]) [0] rfl ?_
  refine z_aload_n X 0 dX0_init_0 rfl rfl ?_
  refine z_objInit X q_154 q_46 q_47 dX0_init_1 (Nat.le_of_ble_eq_true rfl) (Nat.le_of_ble_eq_true rfl) ?_
  refine z_aload_n X 0 dX0_init_4 rfl rfl ?_
  refine z_iconst X (v := nI 4) dX0_init_5 (by decide) ?_
  refine z_newa X (atype := .long) (ty := .long) (N' := 4) (a0 := (4, .inr (.inl (fun _ => 0)))) k1 0 hn1 q_81 rfl rfl (fun _ => rfl) (by decide) (by decide) (by decide) (Nat.le_of_ble_eq_true rfl) (Nat.le_of_ble_eq_true rfl) dX0_init_6 (fun a6 => ?_)
  refine z_putF X (ty := .array .long) k0 0 wa_X0 tyX0 tyX0_ok nmX0 rfl (zad_ne hne) ((zup_ne hne).trans hb) (by decide) q_156 rfl rfl hnm rfl (by decide +kernel) rfl rfl (Nat.le_of_ble_eq_true rfl) dX0_init_8 ?_
  refine z_aload_n X 0 dX0_init_11 rfl rfl ?_
  refine z_ldc2d X dX0_init_12 q_155 ?_
  refine z_put X (ty := .double) k0 1 wa_X0 tyX0 tyX0_ok nmX0 rfl (zad_ne hne) zup_same (by decide) q_157 rfl rfl (by decide +kernel) rfl rfl (Nat.le_of_ble_eq_true rfl) dX0_init_15 ?_
  refine z_f zup_zup ?_
  refine z_aload_n X 0 dX0_init_18 rfl rfl ?_
  refine z_iconst X (v := nI 0) dX0_init_19 (by decide) ?_
  refine z_put X (ty := .int) k0 4 wa_X0 tyX0 tyX0_ok nmX0 rfl (zad_ne hne) zup_same (by decide) q_160 rfl rfl (by decide +kernel) rfl rfl (Nat.le_of_ble_eq_true rfl) dX0_init_20 ?_
  refine z_f zup_zup ?_
  refine z_aload_n X 0 dX0_init_23 rfl rfl ?_
  refine z_iconst X (v := -1) dX0_init_24 (by decide) ?_
  refine z_put X (ty := .int) k0 5 wa_X0 tyX0 tyX0_ok nmX0 rfl (zad_ne hne) zup_same (by decide) q_161 rfl rfl (by decide +kernel) rfl rfl (Nat.le_of_ble_eq_true rfl) dX0_init_25 ?_
  refine z_f zup_zup ?_
  refine z_vret X (Nat.le_of_ble_eq_true rfl) (Nat.le_of_ble_eq_true rfl) ?_ dX0_init_28
  exact ⟨rfl, a6, rfl, rfl⟩
set_option maxHeartbeats 4000000 in
set_option maxRecDepth 100000 in
theorem y_momentOfNext (l : Launch) (G : va_G) (cy : Nat → ClassId) (B : Nat) (ad : Nat → Nat) (f : zW) (k0 : Nat) (m1 m2 g1 g2 : Int64) (pt : Nat) (hpt : pt ≤ 8) (hb : f k0 = some (.inr (2, [.long m1, .long m2, .long g1, .long g2, .int (nI pt)]))) (gg : Int64) : Ct l G cy B yX1_momentOfNext cX1_momentOfNext 3 (some .long) ({ frames := 0, cells := 0, slots := 0, locals := 0 } : Room) ad f [.ref (ad k0), .long gg] (fun v ad' f' => v = some (.long (gg * lN (pt + 1))) ∧ ad = ad' ∧ f = f') := by
  refine ct_of (by decide +kernel) (Nat.le_of_ble_eq_true rfl) ?_
  intro p e s m args below meth c X hnm
  refine z_lv (lv' := [(0, .ref (ad k0)), (1, .long gg)]) [0, 1] rfl ?_
  refine z_lload_n X 1 dX1_momentOfNext_0 rfl rfl ?_
  refine z_aload_n X 0 dX1_momentOfNext_1 rfl rfl ?_
  refine z_get X (v := .int (nI pt)) k0 4 wa_X1 rfl rfl hb (by decide) q_340 rfl rfl dX1_momentOfNext_2 ?_
  refine z_iconst X (v := nI 1) dX1_momentOfNext_5 (by decide) ?_
  refine z_iaddN X dX1_momentOfNext_6 ?_
  refine z_i2lN X (by omega) dX1_momentOfNext_7 ?_
  refine z_lmul X dX1_momentOfNext_8 ?_
  refine z_lret X (Nat.le_of_ble_eq_true rfl) (Nat.le_of_ble_eq_true rfl) ?_ dX1_momentOfNext_9
  exact ⟨rfl, rfl, rfl⟩
set_option maxHeartbeats 4000000 in
set_option maxRecDepth 100000 in
theorem y_hasRoomFor (l : Launch) (G : va_G) (cy : Nat → ClassId) (B : Nat) (ad : Nat → Nat) (f : zW) (k0 : Nat) (m1 m2 g1 g2 : Int64) (pt : Nat) (hpt : pt ≤ 8) (hb : f k0 = some (.inr (2, [.long m1, .long m2, .long g1, .long g2, .int (nI pt)]))) (gg : Int64) : Ct l G cy B yX1_hasRoomFor cX1_hasRoomFor 3 (some .boolean) ({ frames := 1, cells := 0, slots := 0, locals := 22 } : Room) ad f [.ref (ad k0), .long gg] (fun v ad' f' => v = some (.int (nI (if pt < 8 ∧ g1 + gg ≤ m1 ∧ g2 + gg * lN (pt + 1) ≤ m2 then 1 else 0))) ∧ ad = ad' ∧ f = f') := by
  refine ct_of (by decide +kernel) (Nat.le_of_ble_eq_true rfl) ?_
  intro p e s m args below meth c X hnm
  refine z_lv (lv' := [(0, .ref (ad k0)), (1, .long gg)]) [0, 1] rfl ?_
  refine z_aload_n X 0 dX1_hasRoomFor_0 rfl rfl ?_
  refine z_get X (v := .int (nI pt)) k0 4 wa_X1 rfl rfl hb (by decide) q_340 rfl rfl dX1_hasRoomFor_1 ?_
  refine z_bipush X (v := nI 8) dX1_hasRoomFor_4 (by decide) ?_
  refine z_icmp_geN X (tgt := 45) (by omega) (by omega) dX1_hasRoomFor_6 (by decide) (fun c6 => ?_) (fun c6 => ?_)
  · refine z_iconst X (v := nI 0) dX1_hasRoomFor_45 (by decide) ?_
    refine z_zret rfl X (Nat.le_of_ble_eq_true rfl) (Nat.le_of_ble_eq_true rfl) ?_ dX1_hasRoomFor_46
    exact ⟨by rw [if_neg (fun h => absurd h.1 (by omega))], rfl, rfl⟩
  · refine z_aload_n X 0 dX1_hasRoomFor_9 rfl rfl ?_
    refine z_get X (v := .long g1) k0 2 wa_X1 rfl rfl hb (by decide) q_338 rfl rfl dX1_hasRoomFor_10 ?_
    refine z_lload_n X 1 dX1_hasRoomFor_13 rfl rfl ?_
    refine z_ladd X dX1_hasRoomFor_14 ?_
    refine z_aload_n X 0 dX1_hasRoomFor_15 rfl rfl ?_
    refine z_get X (v := .long m1) k0 0 wa_X1 rfl rfl hb (by decide) q_336 rfl rfl dX1_hasRoomFor_16 ?_
    refine z_lcmp_gt X (tgt := 45) dX1_hasRoomFor_19 dX1_hasRoomFor_20 (by decide) (fun c19 => ?_) (fun c19 => ?_)
    · refine z_iconst X (v := nI 0) dX1_hasRoomFor_45 (by decide) ?_
      refine z_zret rfl X (Nat.le_of_ble_eq_true rfl) (Nat.le_of_ble_eq_true rfl) ?_ dX1_hasRoomFor_46
      exact ⟨by rw [if_neg (fun h => absurd h.2.1 (Int64.not_le.mpr c19))], rfl, rfl⟩
    · refine z_aload_n X 0 dX1_hasRoomFor_23 rfl rfl ?_
      refine z_get X (v := .long g2) k0 3 wa_X1 rfl rfl hb (by decide) q_339 rfl rfl dX1_hasRoomFor_24 ?_
      refine z_aload_n X 0 dX1_hasRoomFor_27 rfl rfl ?_
      refine z_lload_n X 1 dX1_hasRoomFor_28 rfl rfl ?_
      refine z_callV X (n := 1) (As := [.long gg]) (rest := [.long g2]) k0 rfl hb rfl (y_momentOfNext l G cy B ad f k0 m1 m2 g1 g2 pt (by omega) hb gg) q_363 q_364 q_11 q_33 q_365 (by decide +kernel) ⟨Nat.le_of_ble_eq_true rfl, Nat.le_of_ble_eq_true rfl⟩ rfl rfl (Nat.le_of_ble_eq_true rfl) dX1_hasRoomFor_29 ⟨Nat.le_of_ble_eq_true rfl, Nat.le_of_ble_eq_true rfl⟩ (fun v ad' f' hp had => ?_)
      obtain ⟨rfl, rfl, rfl⟩ := hp
      refine z_st (st' := [.long (gg * lN (pt + 1)), .long g2]) rfl ?_
      refine z_ladd X dX1_hasRoomFor_32 ?_
      refine z_aload_n X 0 dX1_hasRoomFor_33 rfl rfl ?_
      refine z_get X (v := .long m2) k0 1 wa_X1 rfl rfl hb (by decide) q_337 rfl rfl dX1_hasRoomFor_34 ?_
      refine z_lcmp_gt X (tgt := 45) dX1_hasRoomFor_37 dX1_hasRoomFor_38 (by decide) (fun c37 => ?_) (fun c37 => ?_)
      · refine z_iconst X (v := nI 0) dX1_hasRoomFor_45 (by decide) ?_
        refine z_zret rfl X (Nat.le_of_ble_eq_true rfl) (Nat.le_of_ble_eq_true rfl) ?_ dX1_hasRoomFor_46
        exact ⟨by rw [if_neg (fun h => absurd h.2.2 (Int64.not_le.mpr c37))], rfl, rfl⟩
      · refine z_iconst X (v := nI 1) dX1_hasRoomFor_41 (by decide) ?_
        refine z_goto X (tgt := 46) dX1_hasRoomFor_42 (by decide) ?_
        refine z_zret rfl X (Nat.le_of_ble_eq_true rfl) (Nat.le_of_ble_eq_true rfl) ?_ dX1_hasRoomFor_46
        exact ⟨by rw [if_pos ⟨c6, Int64.not_lt.mp c19, Int64.not_lt.mp c37⟩], rfl, rfl⟩
set_option maxHeartbeats 4000000 in
set_option maxRecDepth 100000 in
theorem y_takeOn (l : Launch) (G : va_G) (cy : Nat → ClassId) (B : Nat) (ad : Nat → Nat) (f : zW) (k0 : Nat) (m1 m2 g1 g2 : Int64) (pt : Nat) (hpt : pt ≤ 8) (hb : f k0 = some (.inr (2, [.long m1, .long m2, .long g1, .long g2, .int (nI pt)]))) (gg : Int64) : Ct l G cy B yX1_takeOn cX1_takeOn 4 (some .int) ({ frames := 1, cells := 0, slots := 0, locals := 22 } : Room) ad f [.ref (ad k0), .long gg] (fun v ad' f' => v = some (.int (nI pt)) ∧ ad = ad' ∧ zup f k0 (.inr (2, [.long m1, .long m2, .long (g1 + gg), .long (g2 + gg * lN (pt + 1)), .int (nI (pt + 1))])) = f') := by
  refine ct_of (by decide +kernel) (Nat.le_of_ble_eq_true rfl) ?_
  intro p e s m args below meth c X hnm
  refine z_lv (lv' := [(0, .ref (ad k0)), (1, .long gg)]) [0, 1] rfl ?_
  refine z_aload_n X 0 dX1_takeOn_0 rfl rfl ?_
  refine z_get X (v := .int (nI pt)) k0 4 wa_X1 rfl rfl hb (by decide) q_340 rfl rfl dX1_takeOn_1 ?_
  refine z_istore_n X (lv' := [(3, .int (nI pt)), (0, .ref (ad k0)), (1, .long gg)]) dX1_takeOn_4 rfl (by decide) rfl ?_
  refine z_aload_n X 1 dX1_takeOn_5 rfl rfl ?_
  refine z_dup X dX1_takeOn_6 rfl ?_
  refine z_get X (v := .long g1) k0 2 wa_X1 rfl rfl hb (by decide) q_338 rfl rfl dX1_takeOn_7 ?_
  refine z_lload_n X 2 dX1_takeOn_10 rfl rfl ?_
  refine z_ladd X dX1_takeOn_11 ?_
  refine z_put X (ty := .long) k0 2 wa_X1 tyX1 tyX1_ok nmX1 rfl rfl hb (by decide) q_338 rfl rfl (by decide +kernel) rfl rfl (Nat.le_of_ble_eq_true rfl) dX1_takeOn_12 ?_
  refine z_aload_n X 1 dX1_takeOn_15 rfl rfl ?_
  refine z_dup X dX1_takeOn_16 rfl ?_
  refine z_get X (v := .long g2) k0 3 wa_X1 rfl rfl zup_same (by decide) q_339 rfl rfl dX1_takeOn_17 ?_
  refine z_aload_n X 1 dX1_takeOn_20 rfl rfl ?_
  refine z_lload_n X 2 dX1_takeOn_21 rfl rfl ?_
  refine z_callV X (n := 1) (As := [.long gg]) (rest := [.long g2, .ref (ad k0)]) k0 rfl zup_same rfl (y_momentOfNext l G cy B ad (zup f k0 (.inr (2, [.long m1, .long m2, .long (g1 + gg), .long g2, .int (nI pt)]))) k0 m1 m2 (g1 + gg) g2 pt (by omega) zup_same gg) q_363 q_364 q_11 q_33 q_365 (by decide +kernel) ⟨Nat.le_of_ble_eq_true rfl, Nat.le_of_ble_eq_true rfl⟩ rfl rfl (Nat.le_of_ble_eq_true rfl) dX1_takeOn_22 ⟨Nat.le_of_ble_eq_true rfl, Nat.le_of_ble_eq_true rfl⟩ (fun v ad' f' hp had => ?_)
  obtain ⟨rfl, rfl, rfl⟩ := hp
  refine z_st (st' := [.long (gg * lN (pt + 1)), .long g2, .ref (ad k0)]) rfl ?_
  refine z_ladd X dX1_takeOn_25 ?_
  refine z_put X (ty := .long) k0 3 wa_X1 tyX1 tyX1_ok nmX1 rfl rfl zup_same (by decide) q_339 rfl rfl (by decide +kernel) rfl rfl (Nat.le_of_ble_eq_true rfl) dX1_takeOn_26 ?_
  refine z_f zup_zup ?_
  refine z_aload_n X 1 dX1_takeOn_29 rfl rfl ?_
  refine z_dup X dX1_takeOn_30 rfl ?_
  refine z_get X (v := .int (nI pt)) k0 4 wa_X1 rfl rfl zup_same (by decide) q_340 rfl rfl dX1_takeOn_31 ?_
  refine z_iconst X (v := nI 1) dX1_takeOn_34 (by decide) ?_
  refine z_iaddN X dX1_takeOn_35 ?_
  refine z_put X (ty := .int) k0 4 wa_X1 tyX1 tyX1_ok nmX1 rfl rfl zup_same (by decide) q_340 rfl rfl (by decide +kernel) rfl rfl (Nat.le_of_ble_eq_true rfl) dX1_takeOn_36 ?_
  refine z_f zup_zup ?_
  refine z_iload_n X 0 dX1_takeOn_39 rfl rfl ?_
  refine z_iret X (Nat.le_of_ble_eq_true rfl) (Nat.le_of_ble_eq_true rfl) ?_ dX1_takeOn_40
  exact ⟨rfl, rfl, rfl⟩
set_option maxHeartbeats 4000000 in
set_option maxRecDepth 100000 in
theorem y_init (l : Launch) (G : va_G) (cy : Nat → ClassId) (B : Nat) (ad : Nat → Nat) (f : zW) (k0 : Nat) (hb : f k0 = some (.inr (2, [.long 0, .long 0, .long 0, .long 0, .int 0]))) (m1 m2 : Int64) : Ct l G cy B yX1_init cX1_init 5 none ({ frames := 1, cells := 0, slots := 0, locals := 12 } : Room) ad f [.ref (ad k0), .long m1, .long m2] (fun v ad' f' => v = none ∧ ad = ad' ∧ zup f k0 (.inr (2, [.long m1, .long m2, .long 0, .long 0, .int 0])) = f') := by
  refine ct_of (by decide +kernel) (Nat.le_of_ble_eq_true rfl) ?_
  intro p e s m args below meth c X hnm
  refine z_lv (lv' := [(0, .ref (ad k0)), (1, .long m1), (3, .long m2)]) [0, 1, 2] rfl ?_
  refine z_aload_n X 0 dX1_init_0 rfl rfl ?_
  refine z_objInit X q_335 q_46 q_47 dX1_init_1 (Nat.le_of_ble_eq_true rfl) (Nat.le_of_ble_eq_true rfl) ?_
  refine z_aload_n X 0 dX1_init_4 rfl rfl ?_
  refine z_lload_n X 1 dX1_init_5 rfl rfl ?_
  refine z_putF X (ty := .long) k0 0 wa_X1 tyX1 tyX1_ok nmX1 rfl rfl hb (by decide) q_336 rfl rfl hnm rfl (by decide +kernel) rfl rfl (Nat.le_of_ble_eq_true rfl) dX1_init_6 ?_
  refine z_aload_n X 0 dX1_init_9 rfl rfl ?_
  refine z_lload_n X 2 dX1_init_10 rfl rfl ?_
  refine z_putF X (ty := .long) k0 1 wa_X1 tyX1 tyX1_ok nmX1 rfl rfl zup_same (by decide) q_337 rfl rfl hnm rfl (by decide +kernel) rfl rfl (Nat.le_of_ble_eq_true rfl) dX1_init_11 ?_
  refine z_f zup_zup ?_
  refine z_vret X (Nat.le_of_ble_eq_true rfl) (Nat.le_of_ble_eq_true rfl) ?_ dX1_init_14
  exact ⟨rfl, rfl, rfl⟩
set_option maxHeartbeats 4000000 in
set_option maxRecDepth 100000 in
theorem s_init (l : Launch) (G : va_G) (cy : Nat → ClassId) (B : Nat) (ad : Nat → Nat) (f : zW) (k0 : Nat) (hb : f k0 = some (.inr (3, [.int 0, .int 0]))) (ga he : Int32) : Ct l G cy B yX2_init cX2_init 3 none ({ frames := 1, cells := 0, slots := 0, locals := 12 } : Room) ad f [.ref (ad k0), .int ga, .int he] (fun v ad' f' => v = none ∧ ad = ad' ∧ zup f k0 (.inr (3, [.int ga, .int he])) = f') := by
  refine ct_of (by decide +kernel) (Nat.le_of_ble_eq_true rfl) ?_
  intro p e s m args below meth c X hnm
  refine z_lv (lv' := [(0, .ref (ad k0)), (1, .int ga), (2, .int he)]) [0, 1, 2] rfl ?_
  refine z_aload_n X 0 dX2_init_0 rfl rfl ?_
  refine z_objInit X q_282 q_46 q_47 dX2_init_1 (Nat.le_of_ble_eq_true rfl) (Nat.le_of_ble_eq_true rfl) ?_
  refine z_aload_n X 0 dX2_init_4 rfl rfl ?_
  refine z_iload_n X 1 dX2_init_5 rfl rfl ?_
  refine z_putF X (ty := .int) k0 0 wa_X2 tyX2 tyX2_ok nmX2 rfl rfl hb (by decide) q_283 rfl rfl hnm rfl (by decide +kernel) rfl rfl (Nat.le_of_ble_eq_true rfl) dX2_init_6 ?_
  refine z_aload_n X 0 dX2_init_9 rfl rfl ?_
  refine z_iload_n X 2 dX2_init_10 rfl rfl ?_
  refine z_putF X (ty := .int) k0 1 wa_X2 tyX2 tyX2_ok nmX2 rfl rfl zup_same (by decide) q_284 rfl rfl hnm rfl (by decide +kernel) rfl rfl (Nat.le_of_ble_eq_true rfl) dX2_init_11 ?_
  refine z_f zup_zup ?_
  refine z_vret X (Nat.le_of_ble_eq_true rfl) (Nat.le_of_ble_eq_true rfl) ?_ dX2_init_14
  exact ⟨rfl, rfl, rfl⟩
