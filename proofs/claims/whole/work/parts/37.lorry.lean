/-! LORRY keeps the relation -/
theorem rel_lorry {ad ad' cn : Nat → Nat} {u : Nat → Nat → Int32} {w : Nat → Nat → Int64} {x : Nat → Nat → UInt64} {r : Nat → Nat → Option Nat} {dn : Nat → Nat} {v : Nat → Nat → Int32} {y : Nat → Nat → Int64} {z : Nat → Nat → UInt64} {g h : Int64} (hR : Rel ad cn u w x r dn v y z) (hc : cn 14 < 3) (hA : ∀ k, k ≠ cn 14 + 400 → ad' k = ad k) : Rel ad' (va_up (va_up cn 32 (cn 14 + 1)) 14 (cn 14 + 1)) (va_up u (cn 14 + 400) (fun _ => 0)) (va_up w (cn 14 + 400) (lF g h)) x (va_up r 14 (va_up (r 14) (cn 14) (some (ad' (cn 14 + 400))))) (va_up dn 21 (dn 21 + 1)) v (va_up (va_up y 22 (vp_updL (y 22) (dn 21) g)) 23 (vp_updL (y 23) (dn 21) h)) z := by
  obtain ⟨⟨⟨a1, a2, a3, a4, a5, a6⟩, ⟨a7, a8, a9⟩, r6, r12, r14⟩, ⟨⟨b1, b2, b3, b4, b5⟩, b6, b7, b8⟩, c1, d1, e1, f1, g1, l1, z1⟩ := hR
  have gm : ∀ j k, gramsM (va_up dn 21 (dn 21 + 1)) v (va_up (va_up y 22 (vp_updL (y 22) (dn 21) g)) 23 (vp_updL (y 23) (dn 21) h)) j k = gramsM dn v y j k := gramsM_rows rfl rfl rfl rfl rfl rfl
  refine ⟨⟨⟨a1, a2, a3, a4, a5, by show cn 14 + 1 ≤ 3; omega⟩, ⟨a7, a8, rfl⟩, fun i hi => ?_, fun i hi => ?_, fun i hi => ?_⟩, ⟨⟨b1, b2, b3, b4, by show dn 21 + 1 = cn 14 + 1; omega⟩, ?_, ?_, b8⟩, ?_, fun b hb => ⟨?_, ?_⟩, ?_, f1, fun s hs => ?_, fun li hli => ?_, ⟨z1.1, fun li hl => z1.2 li (by have hl' : cn 14 + 1 ≤ li := hl; omega)⟩⟩
  · have hi' : i < cn 6 := hi
    rw [hA (i + 100) (by omega)]
    exact r6 i hi'
  · have hi' : i < cn 12 := hi
    rw [hA (i + 300) (by omega)]
    exact r12 i hi'
  · have hi' : i < cn 14 + 1 := hi
    show va_up (r 14) (cn 14) (some (ad' (cn 14 + 400))) i = _
    by_cases e : i = cn 14
    · rw [e, va_same]
    · rw [va_ne e, hA (i + 400) (by omega)]
      exact r14 i (by omega)
  · rw [va_ne (show (0 : Nat) ≠ cn 14 + 400 by omega)]
    exact b6
  · rw [va_ne (show (16 : Nat) ≠ cn 14 + 400 by omega)]
    exact b7
  · unfold RelF at c1 ⊢
    rw [va_ne (show (2 : Nat) ≠ cn 14 + 400 by omega), va_ne (show (1 : Nat) ≠ cn 14 + 400 by omega), va_ne (show (3 : Nat) ≠ cn 14 + 400 by omega)]
    exact c1
  · have hb' : b < cn 6 := hb
    have h9 := (d1 b hb').1
    unfold RelB at h9 ⊢
    simp only [gm]
    rw [va_ne (show b + 100 ≠ cn 14 + 400 by omega), va_ne (show b + 200 ≠ cn 14 + 400 by omega)]
    exact h9
  · have hb' : b < cn 6 := hb
    have h9 := (d1 b hb').2
    unfold RelP at h9 ⊢
    rw [va_ne (show b + 100 ≠ 14 by omega)]
    rcases h9 with q | ⟨p1, p2, q1, q2, q3, q4, q5, q6, q7⟩
    · exact Or.inl q
    · exact Or.inr ⟨p1, p2, q1, q2, q3, q4, q5, by rw [hA (p1 + 100) (by omega)]; exact q6, by rw [hA (p2 + 100) (by omega)]; exact q7⟩
  · intro a b ha hb hab
    have ha' : a < cn 6 := ha
    have hb' : b < cn 6 := hb
    rw [va_ne (show a + 100 ≠ cn 14 + 400 by omega), va_ne (show b + 100 ≠ cn 14 + 400 by omega)]
    exact e1 a b ha' hb' hab
  · have hs' : s < cn 12 := hs
    rw [va_ne (show s + 300 ≠ cn 14 + 400 by omega)]
    exact g1 s hs'
  · have hli' : li < cn 14 + 1 := hli
    have lm : ∀ li mm ct, loadM (va_up dn 21 (dn 21 + 1)) v (va_up (va_up y 22 (vp_updL (y 22) (dn 21) g)) 23 (vp_updL (y 23) (dn 21) h)) li mm ct = loadM dn v y li mm ct := fun li mm ct => loadM_rows rfl rfl rfl rfl rfl rfl (fun _ _ => rfl)
    unfold RelL
    simp only [lm]
    show vp_updL (y 22) (dn 21) g li = _ ∧ vp_updL (y 23) (dn 21) h li = _ ∧ _
    rw [b5]
    by_cases e : li = cn 14
    · rw [e, va_same, va_same, pk_uLs, pk_uLs]
      exact ⟨rfl, rfl, 0, by omega, z1.2 (cn 14) (Nat.le_refl _), rfl, fun i hi => absurd hi (Nat.not_lt_zero i), rfl, rfl⟩
    · rw [va_ne (show li + 400 ≠ cn 14 + 400 by omega), va_ne (show li + 400 ≠ cn 14 + 400 by omega), pk_uLn e, pk_uLn e]
      exact l1 li (by omega)
