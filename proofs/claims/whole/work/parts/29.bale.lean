/-! BALE: the grams of a new bale -/
theorem gAcc_sum {k2 : Nat → Int32} {g3 : Nat → Int64} {a : Nat} : ∀ n, (∀ i, i < n → okKind (k2 (a + i))) → ∀ k, k < 4 → gAcc k2 g3 a n k = sumL (fun i => if k2 (a + i) = nI k then g3 (a + i) else 0) n
  | 0, _, _, _ => rfl
  | n + 1, h, k, hk => by
    obtain ⟨j, hj, e⟩ := kd_of (h n (by omega))
    have ih := gAcc_sum (k2 := k2) (g3 := g3) (a := a) n (fun i hi => h i (by omega)) k hk
    unfold gAcc sumL
    rw [e, nI_clamp (by omega)]
    by_cases hkj : k = j
    · subst hkj
      rw [if_pos rfl, pk_uLs, ih]
    · rw [if_neg (fun q => hkj ((nI_eq (by omega) (by omega)).mp q).symm), pk_uLn hkj, ih, Int64.add_zero]
/-- a bale that was pressed of feeds: those that went into it -/
theorem gramsM_leaf {dn : Nat → Nat} {v : Nat → Nat → Int32} {y : Nat → Nat → Int64} {j a m : Nat} {k : Int32} (hj : j < 12) (h0 : v 12 j < 0) (hn : a + m ≤ dn 0) (h1 : ∀ f, f < a → ∃ t, t < 12 ∧ t ≠ j ∧ v 4 f = nI t) (h2 : ∀ f, a ≤ f → f < a + m → v 4 f = nI j) (h3 : ∀ f, a + m ≤ f → f < dn 0 → v 4 f < 0) : gramsM dn v y j k = sumL (fun i => if v 2 (a + i) = k then y 3 (a + i) else 0) m := by
  have hl := fun t (ht : t < 12) => has_leaf (fo := v 12) (so := v 13) hj ht h0
  unfold gramsM
  obtain ⟨q, hq⟩ : ∃ q, dn 0 = a + m + q := ⟨dn 0 - (a + m), by omega⟩
  have e3 : ∀ q, a + m + q ≤ dn 0 → sumL (fun f => if ¬ v 4 f < 0 ∧ v 2 f = k ∧ hasI (v 12) (v 13) j (v 4 f) then y 3 f else 0) (a + m + q) = sumL (fun f => if ¬ v 4 f < 0 ∧ v 2 f = k ∧ hasI (v 12) (v 13) j (v 4 f) then y 3 f else 0) (a + m) := by
    intro q
    induction q with
    | zero => intro _; rfl
    | succ q ih =>
      intro hq
      show sumL _ (a + m + q) + (if ¬ v 4 (a + m + q) < 0 ∧ v 2 (a + m + q) = k ∧ hasI (v 12) (v 13) j (v 4 (a + m + q)) then y 3 (a + m + q) else 0) = _
      rw [ih (by omega), if_neg (fun z => z.1 (h3 _ (by omega) (by omega))), Int64.add_zero]
  rw [hq, e3 q (by omega), sumL_from (fun i hi => by
    obtain ⟨t, ht, htj, et⟩ := h1 i hi
    refine if_neg (fun z => ?_)
    rw [et] at z
    exact htj ((hl t ht).mp z.2.2)) m]
  refine sumL_congr _ (fun i hi => ?_)
  have et := h2 (a + i) (by omega) (by omega)
  by_cases hk : v 2 (a + i) = k
  · rw [if_pos hk, if_pos ⟨by rw [et]; exact nI_pos (by omega), hk, by rw [et]; exact (hl j hj).mpr rfl⟩]
  · rw [if_neg hk, if_neg (fun z => hk z.2.1)]
/-- the loose feeds are those from the baled ones on -/
theorem count_eq {dn : Nat → Nat} {v : Nat → Nat → Int32} {y : Nat → Nat → Int64} {a m : Nat} {k : Int32} (hn : dn 0 = a + m) (h1 : ∀ f, f < a → ¬ v 4 f < 0) (h2 : ∀ f, a ≤ f → f < a + m → v 4 f < 0) : countM dn v y k = sumL (fun i => if v 2 (a + i) = k then y 3 (a + i) else 0) m := by
  unfold countM
  rw [hn, sumL_from (fun i hi => if_neg (fun z => h1 i hi z.1)) m]
  refine sumL_congr _ (fun i hi => ?_)
  by_cases hk : v 2 (a + i) = k
  · rw [if_pos hk, if_pos ⟨h2 _ (by omega) (by omega), hk⟩]
  · rw [if_neg hk, if_neg (fun z => hk z.2)]
