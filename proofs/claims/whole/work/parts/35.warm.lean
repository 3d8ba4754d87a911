/-! WARM keeps the relation -/
theorem rel_warm {ad cn : Nat → Nat} {u : Nat → Nat → Int32} {w : Nat → Nat → Int64} {x : Nat → Nat → UInt64} {r : Nat → Nat → Option Nat} {dn : Nat → Nat} {v : Nat → Nat → Int32} {y : Nat → Nat → Int64} {z : Nat → Nat → UInt64} {i : Nat} {sk sp : Int32} {t t' : UInt64} (h : Rel ad cn u w x r dn v y z) (hi : i < cn 6) (ht : eqd t t') : Rel ad cn (va_up u (i + 100) (upd (upd (u (i + 100)) 2 sk) 3 sp)) w (va_up x (i + 100) (vf_upd (x (i + 100)) 1 t)) r dn (va_up (va_up v 9 (upd (v 9) i sk)) 8 (upd (v 8) i sp)) y (va_up z 7 (vf_upd (z 7) i t')) := by
  obtain ⟨a1, ⟨b1, b2, b3, b4⟩, c1, d1, e1, f1, g1, l1, z1⟩ := h
  have hc6 := a1.1.2.2.1
  have gm : ∀ j k, gramsM dn (va_up (va_up v 9 (upd (v 9) i sk)) 8 (upd (v 8) i sp)) y j k = gramsM dn v y j k := gramsM_rows rfl rfl rfl rfl rfl rfl
  refine ⟨a1, ⟨b1, ?_, ?_, b4⟩, ?_, fun b hb => ⟨?_, (d1 b hb).2⟩, ?_, ?_, ?_, fun li hli => ?_, ⟨fun b hb => ?_, z1.2⟩⟩
  · rw [va_ne (show (0 : Nat) ≠ i + 100 by omega)]
    exact b2
  · rw [va_ne (show (16 : Nat) ≠ i + 100 by omega)]
    exact b3
  · unfold RelF at c1 ⊢
    rw [va_ne (show (2 : Nat) ≠ i + 100 by omega)]
    exact c1
  · have h9 := (d1 b hb).1
    unfold RelB at h9 ⊢
    simp only [gm]
    by_cases e : b = i
    · subst e
      rw [va_same (f := u), va_same (f := x)]
      obtain ⟨⟨i1, i2, i3, i4⟩, i5, i6, i7, i8, i9⟩ := h9
      exact ⟨⟨i1, (show upd (v 8) b sp b = sp from pk_us), (show upd (v 9) b sk b = sk from pk_us), i4⟩, (show eqd t (vf_upd (z 7) b t' b) from by rw [show vf_upd (z 7) b t' b = t' from if_pos rfl]; exact ht), i6, i7, i8, i9⟩
    · rw [va_ne (show b + 100 ≠ i + 100 by omega), va_ne (show b + 100 ≠ i + 100 by omega), show (va_up (va_up v 9 (upd (v 9) i sk)) 8 (upd (v 8) i sp)) 8 b = v 8 b from pk_un e, show (va_up (va_up v 9 (upd (v 9) i sk)) 8 (upd (v 8) i sp)) 9 b = v 9 b from pk_un e, show va_up z 7 (vf_upd (z 7) i t') 7 b = z 7 b from if_neg e]
      exact h9
  · intro a b ha hb hab h2 h3
    have f9 : ∀ q, ¬ va_up u (i + 100) (upd (upd (u (i + 100)) 2 sk) 3 sp) (q + 100) 4 = nI 3 → ¬ u (q + 100) 4 = nI 3 := by
      intro q hq hz
      by_cases e : q = i
      · rw [e] at hz hq
        rw [va_same (f := u)] at hq
        exact hq hz
      · rw [va_ne (show q + 100 ≠ i + 100 by omega)] at hq
        exact hq hz
    exact e1 a b ha hb hab (f9 a h2) (f9 b h3)
  · intro s hs
    rw [va_ne (show (8 : Nat) ≠ i + 100 by omega), va_ne (show (9 : Nat) ≠ i + 100 by omega)]
    exact f1 s hs
  · intro s hs
    rw [va_ne (show s + 300 ≠ i + 100 by omega)]
    exact g1 s hs
  · have h9 := l1 li hli
    unfold RelL at h9 ⊢
    rw [va_ne (show li + 400 ≠ i + 100 by omega)]
    exact h9
  · have h9 := z1.1 b hb
    have e : b ≠ i := by omega
    exact ⟨(pk_un e : upd (v 8) i sp b = v 8 b).trans h9.1, (pk_un e : upd (v 9) i sk b = v 9 b).trans h9.2⟩
