/-! WARM AND SIZE over related doubles; SUMS -/
theorem eqd_dc {x y : UInt64} (h : dc x = dc y) : eqd x y := Or.inl h
theorem stepR_eqd {gn gn' o o' t t' r r' : UInt64} (hg : eqd gn gn') (ho : eqd o o') (ht : eqd t t') (h : stepR gn o t r) (h' : stepR gn' o' t' r') : eqd r r' := by
  obtain ⟨a, b, c, h1, h2, h3, h4⟩ := h
  obtain ⟨a', b', c', h1', h2', h3', h4'⟩ := h'
  exact dsub_eqd (dadd_eqd ht hg h1 h1') (dmul_eqd (dsub_eqd ht ho h2 h2') h3 h3') h4 h4'
theorem gainL_eqd {dg ht dg' ht' : Nat → UInt64} {t t' : UInt64} (hT : eqd t t') : ∀ n, (∀ i, i < n → eqd (dg i) (dg' i) ∧ eqd (ht i) (ht' i)) → eqd (gainL dg ht t n) (gainL dg' ht' t' n)
  | 0, _ => eqD_refl _
  | n + 1, h => by
    unfold gainL
    rw [dLe_eqd (h n (by omega)).1 hT]
    split
    · exact (h n (by omega)).2
    · exact gainL_eqd hT n (fun i hi => h i (by omega))
theorem warmR_eqd {dg ht dg' ht' : Nat → UInt64} {nr : Nat} {o o' : UInt64} (hr : ∀ i, i < nr → eqd (dg i) (dg' i) ∧ eqd (ht i) (ht' i)) (ho : eqd o o') {t0 t0' : UInt64} {sk sp : Int32} (h0 : eqd t0 t0') : ∀ (n : Nat) {t1 t1' : UInt64} {sk1 sp1 sk1' sp1' : Int32}, warmR dg ht nr o n t0 sk sp t1 sk1 sp1 → warmR dg' ht' nr o' n t0' sk sp t1' sk1' sp1' → eqd t1 t1' ∧ sk1 = sk1' ∧ sp1 = sp1' := by
  intro n
  induction n with
  | zero =>
    rintro t1 t1' sk1 sp1 sk1' sp1' ⟨rfl, rfl, rfl⟩ ⟨rfl, rfl, rfl⟩
    exact ⟨h0, rfl, rfl⟩
  | succ n ih =>
    rintro t1 t1' sk1 sp1 sk1' sp1' ⟨a, b, c, h1, h2, h3, h4⟩ ⟨a', b', c', h1', h2', h3', h4'⟩
    obtain ⟨e1, e2, e3⟩ := ih h1 h1'
    have e4 := stepR_eqd (gainL_eqd e1 nr hr) ho e1 h2 h2'
    have e5 : sk1 = sk1' := by rw [h3, h3', dGe_eqd e4 (eqD_refl _), e2]
    exact ⟨e4, e5, by rw [h4, h4', e5, e3]⟩
theorem sizeR_eqd {w : Int64} {q q' r r' : UInt64} (hq : dc q = dc q') (h : sizeR w q r) (h' : sizeR w q' r') : eqd r r' := by
  obtain ⟨a, b, c, h1, h2, h3, h4⟩ := h
  obtain ⟨a', b', c', h1', h2', h3', h4'⟩ := h'
  have ea : dc a = dc a' := (alike_dc h1).trans (alike_dc h1').symm
  have eb := ddiv_eqd ea hq h2 h2'
  exact dadd_eqd eb (dmul_eqd eb h3 h3') h4 h4'
theorem sumL_congr {g h : Nat → Int64} : ∀ n, (∀ i, i < n → g i = h i) → sumL g n = sumL h n
  | 0, _ => rfl
  | n + 1, e => by
    unfold sumL
    rw [sumL_congr n (fun i hi => e i (by omega)), e n (by omega)]
theorem add4 (a b c d : Int64) : (a + b) + (c + d) = (a + c) + (b + d) := by
  rw [Int64.add_assoc a b, ← Int64.add_assoc b c d, Int64.add_comm b c, Int64.add_assoc c b d, ← Int64.add_assoc a c]
theorem sumL_add {g h : Nat → Int64} : ∀ n, sumL (fun i => g i + h i) n = sumL g n + sumL h n
  | 0 => rfl
  | n + 1 => by
    unfold sumL
    rw [sumL_add n]
    exact add4 _ _ _ _
theorem sumL_0 : ∀ n, sumL (fun _ => 0) n = 0
  | 0 => rfl
  | n + 1 => by
    unfold sumL
    rw [sumL_0 n]
    rfl
theorem sumL_lN {g : Nat → Int64} {M : Nat} : ∀ n, (∀ i, i < n → ∃ m, m ≤ M ∧ g i = lN m) → ∃ W, W ≤ n * M ∧ sumL g n = lN W
  | 0, _ => ⟨0, Nat.zero_le _, rfl⟩
  | n + 1, h => by
    obtain ⟨W, h1, h2⟩ := sumL_lN n (fun i hi => h i (by omega))
    obtain ⟨m, h3, h4⟩ := h n (by omega)
    refine ⟨W + m, by rw [Nat.succ_mul]; omega, ?_⟩
    unfold sumL
    rw [h2, h4, lN_add]
/-- from a on: the sum of the first m is the sum over all, if what is below a counts nothing -/
theorem sumL_from {g : Nat → Int64} {a : Nat} (h0 : ∀ i, i < a → g i = 0) : ∀ m, sumL g (a + m) = sumL (fun i => g (a + i)) m
  | 0 => by
    rw [Nat.add_zero, sumL_congr a (h := fun _ => 0) h0, sumL_0]
    rfl
  | m + 1 => by
    show sumL g (a + m) + g (a + m) = sumL (fun i => g (a + i)) m + g (a + m)
    rw [sumL_from h0 m]
theorem mainL_congr {g h : Nat → Int64} : ∀ n, (∀ i, i ≤ n → g i = h i) → mainL g n = mainL h n
  | 0, _ => rfl
  | n + 1, e => by
    have h1 := mainL_congr n (fun i hi => e i (by omega))
    have h2 := mainL_le h n
    unfold mainL
    rw [h1, e (mainL h n) (by omega), e (n + 1) (by omega)]
theorem anyB_congr {a b : Nat → Bool} : ∀ n, (∀ i, i < n → a i = b i) → anyB a n = anyB b n
  | 0, _ => rfl
  | n + 1, e => by
    unfold anyB
    rw [anyB_congr n (fun i hi => e i (by omega)), e n (by omega)]
theorem cntN_congr {a b : Nat → Bool} : ∀ n, (∀ i, i < n → a i = b i) → cntN a n = cntN b n
  | 0, _ => rfl
  | n + 1, e => by
    unfold cntN
    rw [cntN_congr n (fun i hi => e i (by omega)), e n (by omega)]
theorem scanF_congr {a b : Nat → Bool} : ∀ n i, (∀ j, i ≤ j → j < i + n → a j = b j) → scanF a n i = scanF b n i
  | 0, _, _ => rfl
  | n + 1, i, e => by
    unfold scanF
    rw [e i (by omega) (by omega), scanF_congr n (i + 1) (fun j h1 h2 => e j (by omega) (by omega))]
theorem scanK_congr {a b : Nat → Bool} {k : Int32} : ∀ n i s, (∀ j, i ≤ j → j < i + n → a j = b j) → scanK a k n i s = scanK b k n i s
  | 0, _, _, _ => rfl
  | n + 1, i, s, e => by
    unfold scanK
    rw [e i (by omega) (by omega), scanK_congr n (i + 1) _ (fun j h1 h2 => e j (by omega) (by omega)), scanK_congr n (i + 1) _ (fun j h1 h2 => e j (by omega) (by omega))]
