/-! PUT keeps the relation -/
theorem rel_put {ad cn : Nat → Nat} {u : Nat → Nat → Int32} {w : Nat → Nat → Int64} {x : Nat → Nat → UInt64} {r : Nat → Nat → Option Nat} {dn : Nat → Nat} {v : Nat → Nat → Int32} {y : Nat → Nat → Int64} {z : Nat → Nat → UInt64} {i st : Nat} (h : Rel ad cn u w x r dn v y z) (hi : i < cn 6) (h1 : u (i + 100) 4 = 0) (hst : st < cn 12) : Rel ad cn (va_up u (i + 100) (upd (upd (u (i + 100)) 4 (nI 1)) 5 (nI st))) w x r dn (va_up (va_up v 6 (upd (v 6) i (nI 1))) 10 (upd (v 10) i (nI st))) y z := by
  obtain ⟨a1, ⟨b1, b2, b3, b4⟩, c1, d1, e1, f1, g1, l1, z1⟩ := h
  have hc6 := a1.1.2.2.1
  have gm : ∀ j k, gramsM dn (va_up (va_up v 6 (upd (v 6) i (nI 1))) 10 (upd (v 10) i (nI st))) y j k = gramsM dn v y j k := gramsM_rows rfl rfl rfl rfl rfl rfl
  refine ⟨a1, ⟨b1, ?_, ?_, b4⟩, ?_, fun b hb => ⟨?_, (d1 b hb).2⟩, ?_, f1, ?_, fun li hli => ?_, z1⟩
  · rw [va_ne (show (0 : Nat) ≠ i + 100 by omega)]
    exact b2
  · rw [va_ne (show (16 : Nat) ≠ i + 100 by omega)]
    exact b3
  · unfold RelF at c1 ⊢
    rw [va_ne (show (2 : Nat) ≠ i + 100 by omega)]
    exact c1
  · have h9 := (d1 b hb).1
    unfold RelB at h9 ⊢
    simp only [gm]
    by_cases e : b = i
    · subst e
      rw [va_same (f := u)]
      obtain ⟨⟨i1, i2, i3, i4⟩, i5, i6, i7, i8, i9⟩ := h9
      exact ⟨⟨(show upd (v 6) b (nI 1) b = nI 1 from pk_us), i2, i3, (show upd (v 10) b (nI st) b = nI st from pk_us)⟩, i5, i6, i7, Or.inr (Or.inl rfl), fun _ => ⟨st, hst, rfl⟩⟩
    · rw [va_ne (show b + 100 ≠ i + 100 by omega), show va_up (va_up v 6 (upd (v 6) i (nI 1))) 10 (upd (v 10) i (nI st)) 6 b = v 6 b from pk_un e, show va_up (va_up v 6 (upd (v 6) i (nI 1))) 10 (upd (v 10) i (nI st)) 10 b = v 10 b from pk_un e]
      exact h9
  · intro a b ha hb hab h2 h3
    have f9 : ∀ q, ¬ va_up u (i + 100) (upd (upd (u (i + 100)) 4 (nI 1)) 5 (nI st)) (q + 100) 4 = nI 3 → ¬ u (q + 100) 4 = nI 3 := by
      intro q hq hz
      by_cases e : q = i
      · rw [e, h1] at hz
        exact absurd hz (by decide)
      · rw [va_ne (show q + 100 ≠ i + 100 by omega)] at hq
        exact hq hz
    exact e1 a b ha hb hab (f9 a h2) (f9 b h3)
  · intro s hs
    rw [va_ne (show s + 300 ≠ i + 100 by omega)]
    exact g1 s hs
  · have h9 := l1 li hli
    unfold RelL at h9 ⊢
    rw [va_ne (show li + 400 ≠ i + 100 by omega)]
    exact h9
