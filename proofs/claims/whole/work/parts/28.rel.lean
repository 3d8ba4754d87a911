/-! THE RELATION of the class's memory (ad cn u w x r) and the reference's (dn v y z) -/
def RelC (cn : Nat → Nat) (u : Nat → Nat → Int32) (dn : Nat → Nat) (v : Nat → Nat → Int32) : Prop := (dn 0 = cn 3 ∧ dn 5 = cn 6 ∧ dn 14 = cn 9 ∧ dn 18 = cn 12 ∧ dn 21 = cn 14) ∧ v 0 17 = u 0 10 ∧ u 16 1 = nI 0 ∧ cn 16 ≤ 16
def RelF (cn : Nat → Nat) (u : Nat → Nat → Int32) (w : Nat → Nat → Int64) (v : Nat → Nat → Int32) (y : Nat → Nat → Int64) : Prop :=
  (∀ f, f < cn 3 → y 1 f = w 1 f ∧ v 2 f = u 2 f ∧ y 3 f = w 3 f ∧ okKind (u 2 f) ∧ ∃ m, m ≤ 1000000 ∧ w 3 f = lN m) ∧ (∀ f, f < cn 4 → ∃ b, b < cn 6 ∧ v 4 f = nI b) ∧ (∀ f, cn 4 ≤ f → f < cn 3 → v 4 f < 0) ∧ ∀ f g, f ≤ g → g < cn 3 → w 1 f ≤ w 1 g
def RelB (cn : Nat → Nat) (u : Nat → Nat → Int32) (w : Nat → Nat → Int64) (x : Nat → Nat → UInt64) (dn : Nat → Nat) (v : Nat → Nat → Int32) (y : Nat → Nat → Int64) (z : Nat → Nat → UInt64) (b : Nat) : Prop :=
  (v 6 b = u (b + 100) 4 ∧ v 8 b = u (b + 100) 3 ∧ v 9 b = u (b + 100) 2 ∧ v 10 b = u (b + 100) 5) ∧ eqd (x (b + 100) 1) (z 7 b) ∧ (∀ k, k < 4 → w (b + 200) k = gramsM dn v y b (nI k)) ∧ ((u (b + 100) 6 = nI 0 ∧ v 11 b < 0) ∨ (u (b + 100) 6 = nI 1 ∧ ¬ v 11 b < 0)) ∧ (u (b + 100) 4 = nI 0 ∨ u (b + 100) 4 = nI 1 ∨ u (b + 100) 4 = nI 2 ∨ u (b + 100) 4 = nI 3) ∧ (u (b + 100) 4 = nI 1 → ∃ s9, s9 < cn 12 ∧ u (b + 100) 5 = nI s9)
def RelP (ad : Nat → Nat) (r : Nat → Nat → Option Nat) (v : Nat → Nat → Int32) (b : Nat) : Prop :=
  (v 12 b < 0 ∧ r (b + 100) 7 = none ∧ r (b + 100) 8 = none) ∨ ∃ a1 a2, a1 < b ∧ a2 < b ∧ a1 ≠ a2 ∧ v 12 b = nI a1 ∧ v 13 b = nI a2 ∧ r (b + 100) 7 = some (ad (a1 + 100)) ∧ r (b + 100) 8 = some (ad (a2 + 100))
def RelD (cn : Nat → Nat) (u : Nat → Nat → Int32) (v : Nat → Nat → Int32) : Prop := ∀ a b, a < cn 6 → b < cn 6 → a ≠ b → ¬ u (a + 100) 4 = nI 3 → ¬ u (b + 100) 4 = nI 3 → ∀ t, t < 12 → ¬ (hasN (v 12) (v 13) a t ∧ hasN (v 12) (v 13) b t)
def RelR (cn : Nat → Nat) (x z : Nat → Nat → UInt64) : Prop := ∀ i, i < cn 9 → eqd (x 8 i) (z 15 i) ∧ eqd (x 9 i) (z 16 i)
def RelS (cn : Nat → Nat) (u v : Nat → Nat → Int32) : Prop := ∀ s, s < cn 12 → v 19 s = u (s + 300) 0 ∧ v 20 s = u (s + 300) 1
def RelL (cn : Nat → Nat) (u : Nat → Nat → Int32) (w : Nat → Nat → Int64) (dn : Nat → Nat) (v : Nat → Nat → Int32) (y : Nat → Nat → Int64) (li : Nat) : Prop :=
  y 22 li = w (li + 400) 0 ∧ y 23 li = w (li + 400) 1 ∧ ∃ ct, ct ≤ 8 ∧ v 25 li = nI ct ∧ u (li + 400) 4 = nI ct ∧ (∀ i, i < ct → ∃ b, b < cn 6 ∧ v 24 (8 * li + i) = nI b) ∧ w (li + 400) 2 = loadM dn v y li 0 ct ∧ w (li + 400) 3 = loadM dn v y li 1 ct
/-- what is not there yet: zeros, as new arrays hold them -/
def RelZ (cn : Nat → Nat) (v : Nat → Nat → Int32) : Prop := (∀ b, cn 6 ≤ b → v 8 b = 0 ∧ v 9 b = 0) ∧ ∀ li, cn 14 ≤ li → v 25 li = nI 0
def Rel (ad cn : Nat → Nat) (u : Nat → Nat → Int32) (w : Nat → Nat → Int64) (x : Nat → Nat → UInt64) (r : Nat → Nat → Option Nat) (dn : Nat → Nat) (v : Nat → Nat → Int32) (y : Nat → Nat → Int64) (z : Nat → Nat → UInt64) : Prop :=
  CI ad cn r ∧ RelC cn u dn v ∧ RelF cn u w v y ∧ (∀ b, b < cn 6 → RelB cn u w x dn v y z b ∧ RelP ad r v b) ∧ RelD cn u v ∧ RelR cn x z ∧ RelS cn u v ∧ (∀ li, li < cn 14 → RelL cn u w dn v y li) ∧ RelZ cn v
theorem gramsM_congr {dn dn' : Nat → Nat} {v v' : Nat → Nat → Int32} {y y' : Nat → Nat → Int64} {j : Nat} {k : Int32} (h0 : dn' 0 = dn 0) (h : ∀ f, f < dn 0 → ((¬ v' 4 f < 0 ∧ v' 2 f = k ∧ hasI (v' 12) (v' 13) j (v' 4 f)) ↔ (¬ v 4 f < 0 ∧ v 2 f = k ∧ hasI (v 12) (v 13) j (v 4 f))) ∧ y' 3 f = y 3 f) : gramsM dn' v' y' j k = gramsM dn v y j k := by
  unfold gramsM
  rw [h0]
  refine sumL_congr _ (fun f hf => ?_)
  obtain ⟨h1, h2⟩ := h f hf
  by_cases h3 : ¬ v 4 f < 0 ∧ v 2 f = k ∧ hasI (v 12) (v 13) j (v 4 f)
  · rw [if_pos h3, if_pos (h1.mpr h3), h2]
  · rw [if_neg h3, if_neg (fun q => h3 (h1.mp q))]
theorem gramsM_lN {dn : Nat → Nat} {v : Nat → Nat → Int32} {y : Nat → Nat → Int64} {j : Nat} {k : Int32} (hn : dn 0 ≤ 200) (h : ∀ f, f < dn 0 → ∃ m, m ≤ 1000000 ∧ y 3 f = lN m) : ∃ W, W ≤ 200000000 ∧ gramsM dn v y j k = lN W := by
  obtain ⟨W, h1, h2⟩ := sumL_lN (g := fun f => if ¬ v 4 f < 0 ∧ v 2 f = k ∧ hasI (v 12) (v 13) j (v 4 f) then y 3 f else 0) (M := 1000000) (dn 0) (fun f hf => by
    by_cases h3 : ¬ v 4 f < 0 ∧ v 2 f = k ∧ hasI (v 12) (v 13) j (v 4 f)
    · obtain ⟨m, h4, h5⟩ := h f hf
      exact ⟨m, h4, (if_pos h3).trans h5⟩
    · exact ⟨0, Nat.zero_le _, if_neg h3⟩)
  exact ⟨W, Nat.le_trans h1 (Nat.mul_le_mul_right 1000000 hn), h2⟩
theorem weightM_lN {dn : Nat → Nat} {v : Nat → Nat → Int32} {y : Nat → Nat → Int64} {j : Nat} (hn : dn 0 ≤ 200) (h : ∀ f, f < dn 0 → ∃ m, m ≤ 1000000 ∧ y 3 f = lN m) : ∃ W, W < 10 ^ 9 ∧ weightM dn v y j = lN W := by
  obtain ⟨W, h1, h2⟩ := sumL_lN (g := fun k => gramsM dn v y j (nI k)) (M := 200000000) 4 (fun k _ => gramsM_lN hn h)
  exact ⟨W, Nat.lt_of_le_of_lt h1 (by decide), h2⟩
theorem tot_eq {w : Nat → Nat → Int64} {dn : Nat → Nat} {v : Nat → Nat → Int32} {y : Nat → Nat → Int64} {b : Nat} (h : ∀ k, k < 4 → w (b + 200) k = gramsM dn v y b (nI k)) : sumL (w (b + 200)) 4 = weightM dn v y b := sumL_congr 4 (fun k hk => h k hk)
theorem main_eq {w : Nat → Nat → Int64} {dn : Nat → Nat} {v : Nat → Nat → Int32} {y : Nat → Nat → Int64} {b : Nat} (h : ∀ k, k < 4 → w (b + 200) k = gramsM dn v y b (nI k)) : mainL (w (b + 200)) 3 = mainM dn v y b := mainL_congr 3 (fun k hk => h k (by omega))
theorem in_eq {w : Nat → Nat → Int64} {dn : Nat → Nat} {v : Nat → Nat → Int32} {y : Nat → Nat → Int64} {b : Nat} {k : Int32} (h : ∀ k, k < 4 → w (b + 200) k = gramsM dn v y b (nI k)) (hk : okKind k) : w (b + 200) k.toNatClampNeg = gramsM dn v y b k := by
  obtain ⟨j, hj, rfl⟩ := kd_of hk
  rw [nI_clamp (by omega)]
  exact h j hj
/-- the bale made of two: its grams are theirs -/
theorem gramsM_node {dn : Nat → Nat} {v : Nat → Nat → Int32} {y : Nat → Nat → Int64} {j a b : Nat} {k : Int32} (hj : j < 12) (ha : a < j) (hb : b < j) (e1 : v 12 j = nI a) (e2 : v 13 j = nI b) (hi : ∀ f, f < dn 0 → ¬ v 4 f < 0 → ∃ t, t < 12 ∧ t ≠ j ∧ v 4 f = nI t) (hd : ∀ t, t < 12 → ¬ (hasN (v 12) (v 13) a t ∧ hasN (v 12) (v 13) b t)) : gramsM dn v y j k = gramsM dn v y a k + gramsM dn v y b k := by
  unfold gramsM
  rw [← sumL_add]
  refine sumL_congr _ (fun f hf => ?_)
  by_cases h0 : v 4 f < 0
  · rw [if_neg (fun q => q.1 h0), if_neg (fun q => q.1 h0), if_neg (fun q => q.1 h0)]
    rfl
  by_cases hk : v 2 f = k
  · obtain ⟨t, ht, htj, et⟩ := hi f hf h0
    have hn := has_node (fo := v 12) (so := v 13) hj ht ha hb e1 e2
    rw [et] at h0 ⊢
    by_cases h1 : hasN (v 12) (v 13) a t
    · have h2 : ¬ hasN (v 12) (v 13) b t := fun q => hd t ht ⟨h1, q⟩
      rw [if_pos ⟨h0, hk, hn.mpr (Or.inr (Or.inl h1))⟩, if_pos ⟨h0, hk, h1⟩, if_neg (fun q => h2 q.2.2), Int64.add_zero]
    · by_cases h2 : hasN (v 12) (v 13) b t
      · rw [if_pos ⟨h0, hk, hn.mpr (Or.inr (Or.inr h2))⟩, if_neg (fun q => h1 q.2.2), if_pos ⟨h0, hk, h2⟩, Int64.zero_add]
      · rw [if_neg (fun q => (hn.mp q.2.2).elim htj (fun z => z.elim h1 h2)), if_neg (fun q => h1 q.2.2), if_neg (fun q => h2 q.2.2)]
        rfl
  · rw [if_neg (fun q => hk q.2.1), if_neg (fun q => hk q.2.1), if_neg (fun q => hk q.2.1)]
    rfl
