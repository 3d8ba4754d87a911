/-! LOAD keeps the relation -/
theorem load_ans {ad cn : Nat → Nat} {u : Nat → Nat → Int32} {w : Nat → Nat → Int64} {x : Nat → Nat → UInt64} {r : Nat → Nat → Option Nat} {dn : Nat → Nat} {v : Nat → Nat → Int32} {y : Nat → Nat → Int64} {z : Nat → Nat → UInt64} {li ct j : Nat} (hB : RelB cn u w x dn v y z j) (h0 : y 22 li = w (li + 400) 0) (h1 : y 23 li = w (li + 400) 1) (hc : ct ≤ 8) (h2 : w (li + 400) 2 = loadM dn v y li 0 ct) (h3 : w (li + 400) 3 = loadM dn v y li 1 ct) : okLoadM dn v y li ct j ↔ okLoadC u w li ct j := by
  obtain ⟨⟨i1, i2, i3, i4⟩, i5, i6, i7, i8, i9⟩ := hB
  unfold okLoadM okLoadC
  rw [i1, h0, h1, h2, h3, tot_eq i6]
  constructor
  · rintro ⟨q1, q2, q3, q4⟩
    refine ⟨q1, ?_, by omega, q4⟩
    rcases i7 with ⟨p1, _⟩ | ⟨_, p2⟩
    · exact p1
    · exact absurd q2 p2
  · rintro ⟨q1, q2, q3, q4⟩
    refine ⟨q1, ?_, by omega, q4⟩
    rcases i7 with ⟨_, p1⟩ | ⟨p2, _⟩
    · exact p1
    · rw [p2] at q2
      exact absurd q2 (by decide)
theorem rel_load {ad cn : Nat → Nat} {u : Nat → Nat → Int32} {w : Nat → Nat → Int64} {x : Nat → Nat → UInt64} {r : Nat → Nat → Option Nat} {dn : Nat → Nat} {v : Nat → Nat → Int32} {y : Nat → Nat → Int64} {z : Nat → Nat → UInt64} {li ct j : Nat} (hR : Rel ad cn u w x r dn v y z) (hj : j < cn 6) (hli : li < cn 14) (hct : u (li + 400) 4 = nI ct) (hc : ct < 8) : Rel ad cn (va_up (va_up u (j + 100) (upd (u (j + 100)) 6 (nI 1))) (li + 400) (upd (u (li + 400)) 4 (nI (ct + 1)))) (va_up w (li + 400) (vp_updL (vp_updL (w (li + 400)) 2 (w (li + 400) 2 + sumL (w (j + 200)) 4)) 3 (w (li + 400) 3 + sumL (w (j + 200)) 4 * lN (ct + 1)))) x r dn (va_up (va_up (va_up v 24 (upd (v 24) (8 * li + ct) (nI j))) 25 (upd (v 25) li (nI (ct + 1)))) 11 (upd (v 11) j (nI li))) y z := by
  obtain ⟨⟨⟨a1, a2, a3, a4, a5, a6⟩, a7⟩, ⟨b1, b2, b3, b4⟩, c1, d1, e1, f1, g1, l1, z1⟩ := hR
  generalize hv' : va_up (va_up (va_up v 24 (upd (v 24) (8 * li + ct) (nI j))) 25 (upd (v 25) li (nI (ct + 1)))) 11 (upd (v 11) j (nI li)) = v'
  have w24 : v' 24 = upd (v 24) (8 * li + ct) (nI j) := by rw [← hv']; rfl
  have w25 : v' 25 = upd (v 25) li (nI (ct + 1)) := by rw [← hv']; rfl
  have w11 : v' 11 = upd (v 11) j (nI li) := by rw [← hv']; rfl
  have wo : ∀ c, c ≠ 24 → c ≠ 25 → c ≠ 11 → v' c = v c := fun c h1 h2 h3 => by rw [← hv', va_ne h3, va_ne h2, va_ne h1]
  clear hv'
  generalize hu' : va_up (va_up u (j + 100) (upd (u (j + 100)) 6 (nI 1))) (li + 400) (upd (u (li + 400)) 4 (nI (ct + 1))) = u'
  have uj : u' (j + 100) = upd (u (j + 100)) 6 (nI 1) := by rw [← hu', va_ne (show j + 100 ≠ li + 400 by omega), va_same]
  have ul : u' (li + 400) = upd (u (li + 400)) 4 (nI (ct + 1)) := by rw [← hu', va_same]
  have uo : ∀ c, c ≠ j + 100 → c ≠ li + 400 → u' c = u c := fun c h1 h2 => by rw [← hu', va_ne h2, va_ne h1]
  clear hu'
  have gm : ∀ j k, gramsM dn v' y j k = gramsM dn v y j k := gramsM_rows rfl (wo 2 (by decide) (by decide) (by decide)) (wo 4 (by decide) (by decide) (by decide)) (wo 12 (by decide) (by decide) (by decide)) (wo 13 (by decide) (by decide) (by decide)) rfl
  have lm : ∀ li2 mm ct2, (∀ i, i < ct2 → v' 24 (8 * li2 + i) = v 24 (8 * li2 + i)) → loadM dn v' y li2 mm ct2 = loadM dn v y li2 mm ct2 := fun li2 mm ct2 => loadM_rows rfl (wo 2 (by decide) (by decide) (by decide)) (wo 4 (by decide) (by decide) (by decide)) (wo 12 (by decide) (by decide) (by decide)) (wo 13 (by decide) (by decide) (by decide)) rfl
  have uf : ∀ b, b < cn 6 → ∀ q, q ≠ 6 → u' (b + 100) q = u (b + 100) q := by
    intro b hb q hq
    by_cases e : b = j
    · rw [e, uj, pk_un hq]
    · rw [uo (b + 100) (by omega) (by omega)]
  refine ⟨⟨⟨a1, a2, a3, a4, a5, a6⟩, a7⟩, ⟨b1, ?_, ?_, b4⟩, ?_, fun b hb => ⟨?_, ?_⟩, fun a b ha hb hab h2 h3 t ht => ?_, f1, fun s hs => ?_, fun li2 hli2 => ?_, ⟨fun b hb => ?_, fun li2 hl => ?_⟩⟩
  · rw [wo 0 (by decide) (by decide) (by decide), uo 0 (by omega) (by omega)]
    exact b2
  · rw [uo 16 (by omega) (by omega)]
    exact b3
  · unfold RelF at c1 ⊢
    rw [wo 2 (by decide) (by decide) (by decide), wo 4 (by decide) (by decide) (by decide), uo 2 (by omega) (by omega), va_ne (show (1 : Nat) ≠ li + 400 by omega), va_ne (show (3 : Nat) ≠ li + 400 by omega)]
    exact c1
  · obtain ⟨⟨i1, i2, i3, i4⟩, i5, i6, i7, i8, i9⟩ := (d1 b hb).1
    unfold RelB
    simp only [gm]
    rw [wo 6 (by decide) (by decide) (by decide), wo 8 (by decide) (by decide) (by decide), wo 9 (by decide) (by decide) (by decide), wo 10 (by decide) (by decide) (by decide), uf b hb 2 (by decide), uf b hb 3 (by decide), uf b hb 4 (by decide), uf b hb 5 (by decide), va_ne (show b + 200 ≠ li + 400 by omega)]
    refine ⟨⟨i1, i2, i3, i4⟩, i5, i6, ?_, i8, i9⟩
    by_cases e : b = j
    · rw [e, w11, pk_us, uj, pk_us]
      exact Or.inr ⟨rfl, nI_pos (by omega)⟩
    · rw [w11, pk_un e, uo (b + 100) (by omega) (by omega)]
      exact i7
  · have h9 := (d1 b hb).2
    unfold RelP at h9 ⊢
    rw [wo 12 (by decide) (by decide) (by decide), wo 13 (by decide) (by decide) (by decide)]
    exact h9
  · rw [uf a ha 4 (by decide)] at h2
    rw [uf b hb 4 (by decide)] at h3
    rw [wo 12 (by decide) (by decide) (by decide), wo 13 (by decide) (by decide) (by decide)]
    exact e1 a b ha hb hab h2 h3 t ht
  · rw [wo 19 (by decide) (by decide) (by decide), wo 20 (by decide) (by decide) (by decide), uo (s + 300) (by omega) (by omega)]
    exact g1 s hs
  · obtain ⟨i1, i2, ct2, i3, i4, i5, i6, i7, i8⟩ := l1 li2 hli2
    by_cases e : li2 = li
    · subst e
      have ec : ct2 = ct := (nI_eq (by omega) (by omega)).mp (i5.symm.trans hct)
      subst ec
      unfold RelL
      rw [va_same, w25, pk_us, ul, pk_us]
      have lo : ∀ i, i < ct2 → v' 24 (8 * li2 + i) = v 24 (8 * li2 + i) := fun i hi => by rw [w24, pk_un (by omega)]
      have hg := (d1 j hj).1.2.2.1
      have ls : ∀ mm, loadM dn v' y li2 mm (ct2 + 1) = loadM dn v y li2 mm ct2 + weightM dn v y j * lN (if mm = 1 then ct2 + 1 else 1) := by
        intro mm
        have e1 : loadM dn v' y li2 mm (ct2 + 1) = loadM dn v' y li2 mm ct2 + weightM dn v' y (v' 24 (8 * li2 + ct2)).toNatClampNeg * lN (if mm = 1 then ct2 + 1 else 1) := rfl
        rw [e1, lm li2 mm ct2 lo, w24, pk_us, nI_clamp (by omega)]
        unfold weightM
        simp only [gm]
      refine ⟨i1, i2, ct2 + 1, by omega, rfl, rfl, fun i hi => ?_, ?_, ?_⟩
      · by_cases e2 : i = ct2
        · rw [e2, w24, pk_us]
          exact ⟨j, hj, rfl⟩
        · rw [lo i (by omega)]
          exact i6 i (by omega)
      · rw [pk_uLn (by decide), pk_uLs, ls, i7, tot_eq hg]
        exact congrArg (fun q => loadM dn v y li2 0 ct2 + q) (Int64.mul_one _).symm
      · rw [pk_uLs, ls, i8, tot_eq hg]
        rfl
    · unfold RelL
      rw [va_ne (show li2 + 400 ≠ li + 400 by omega), w25, pk_un e, uo (li2 + 400) (by omega) (by omega)]
      have lo : ∀ i, i < ct2 → v' 24 (8 * li2 + i) = v 24 (8 * li2 + i) := fun i hi => by rw [w24, pk_un (by omega)]
      refine ⟨i1, i2, ct2, i3, i4, i5, fun i hi => ?_, ?_, ?_⟩
      · rw [lo i hi]
        exact i6 i hi
      · rw [lm li2 0 ct2 lo]
        exact i7
      · rw [lm li2 1 ct2 lo]
        exact i8
  · rw [wo 8 (by decide) (by decide) (by decide), wo 9 (by decide) (by decide) (by decide)]
    exact z1.1 b hb
  · rw [w25, pk_un (by omega)]
    exact z1.2 li2 hl
