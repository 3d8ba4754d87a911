/-! STACK keeps the relation -/
theorem rel_stack {ad ad' cn : Nat → Nat} {u : Nat → Nat → Int32} {w : Nat → Nat → Int64} {x : Nat → Nat → UInt64} {r : Nat → Nat → Option Nat} {dn : Nat → Nat} {v : Nat → Nat → Int32} {y : Nat → Nat → Int64} {z : Nat → Nat → UInt64} {g h : Int32} (hR : Rel ad cn u w x r dn v y z) (hc : cn 12 < 4) (hA : ∀ k, k ≠ cn 12 + 300 → ad' k = ad k) : Rel ad' (va_up (va_up cn 31 (cn 12 + 1)) 12 (cn 12 + 1)) (va_up u (cn 12 + 300) (sF g h)) w x (va_up r 12 (va_up (r 12) (cn 12) (some (ad' (cn 12 + 300))))) (va_up dn 18 (dn 18 + 1)) (va_up (va_up v 19 (upd (v 19) (dn 18) g)) 20 (upd (v 20) (dn 18) h)) y z := by
  obtain ⟨⟨⟨a1, a2, a3, a4, a5, a6⟩, ⟨a7, a8, a9⟩, r6, r12, r14⟩, ⟨⟨b1, b2, b3, b4, b5⟩, b6, b7, b8⟩, c1, d1, e1, f1, g1, l1, z1⟩ := hR
  have gm : ∀ j k, gramsM (va_up dn 18 (dn 18 + 1)) (va_up (va_up v 19 (upd (v 19) (dn 18) g)) 20 (upd (v 20) (dn 18) h)) y j k = gramsM dn v y j k := gramsM_rows rfl rfl rfl rfl rfl rfl
  refine ⟨⟨⟨a1, a2, a3, a4, by show cn 12 + 1 ≤ 4; omega, a6⟩, ⟨a7, rfl, a9⟩, fun i hi => ?_, fun i hi => ?_, fun i hi => ?_⟩, ⟨⟨b1, b2, b3, by show dn 18 + 1 = cn 12 + 1; omega, b5⟩, ?_, ?_, b8⟩, ?_, fun b hb => ⟨?_, ?_⟩, ?_, f1, fun s hs => ?_, fun li hli => ?_, z1⟩
  · have hi' : i < cn 6 := hi
    rw [hA (i + 100) (by omega)]
    exact r6 i hi'
  · have hi' : i < cn 12 + 1 := hi
    show va_up (r 12) (cn 12) (some (ad' (cn 12 + 300))) i = _
    by_cases e : i = cn 12
    · rw [e, va_same]
    · rw [va_ne e, hA (i + 300) (by omega)]
      exact r12 i (by omega)
  · have hi' : i < cn 14 := hi
    rw [hA (i + 400) (by omega)]
    exact r14 i hi'
  · rw [va_ne (show (0 : Nat) ≠ cn 12 + 300 by omega)]
    exact b6
  · rw [va_ne (show (16 : Nat) ≠ cn 12 + 300 by omega)]
    exact b7
  · unfold RelF at c1 ⊢
    rw [va_ne (show (2 : Nat) ≠ cn 12 + 300 by omega)]
    exact c1
  · have hb' : b < cn 6 := hb
    have h9 := (d1 b hb').1
    unfold RelB at h9 ⊢
    simp only [gm]
    rw [va_ne (show b + 100 ≠ cn 12 + 300 by omega)]
    obtain ⟨i1, i2, i3, i4, i5, i6⟩ := h9
    refine ⟨i1, i2, i3, i4, i5, fun q => ?_⟩
    obtain ⟨s9, hs9, es⟩ := i6 q
    exact ⟨s9, by show s9 < cn 12 + 1; omega, es⟩
  · have hb' : b < cn 6 := hb
    have h9 := (d1 b hb').2
    unfold RelP at h9 ⊢
    rw [va_ne (show b + 100 ≠ 12 by omega)]
    rcases h9 with q | ⟨p1, p2, q1, q2, q3, q4, q5, q6, q7⟩
    · exact Or.inl q
    · exact Or.inr ⟨p1, p2, q1, q2, q3, q4, q5, by rw [hA (p1 + 100) (by omega)]; exact q6, by rw [hA (p2 + 100) (by omega)]; exact q7⟩
  · intro a b ha hb hab
    have ha' : a < cn 6 := ha
    have hb' : b < cn 6 := hb
    rw [va_ne (show a + 100 ≠ cn 12 + 300 by omega), va_ne (show b + 100 ≠ cn 12 + 300 by omega)]
    exact e1 a b ha' hb' hab
  · have hs' : s < cn 12 + 1 := hs
    show upd (v 19) (dn 18) g s = va_up u (cn 12 + 300) (sF g h) (s + 300) 0 ∧ upd (v 20) (dn 18) h s = va_up u (cn 12 + 300) (sF g h) (s + 300) 1
    rw [b4]
    by_cases e : s = cn 12
    · rw [e, va_same, pk_us, pk_us]
      exact ⟨rfl, rfl⟩
    · rw [va_ne (show s + 300 ≠ cn 12 + 300 by omega), pk_un e, pk_un e]
      exact g1 s (by omega)
  · have hli' : li < cn 14 := hli
    have h9 := l1 li hli'
    unfold RelL at h9 ⊢
    rw [va_ne (show li + 400 ≠ cn 12 + 300 by omega)]
    exact h9
