/-! HAS: which bales a bale holds, as bits -/
abbrev bt (s : Int32) (t : Nat) : Prop := (s >>> (nI t &&& 31)) &&& nI 1 = nI 1
theorem bt_sh {t : Nat} (h : t < 12) : ∀ a, a < 12 → (bt (nI 1 <<< (nI a &&& 31)) t ↔ t = a) := by
  have h9 : ∀ t, t < 12 → ∀ a, a < 12 → (bt (nI 1 <<< (nI a &&& 31)) t ↔ t = a) := by decide +kernel
  exact h9 t h
theorem bv1 : (nI 1).toBitVec.getLsbD 0 = true := by decide +kernel
theorem bt_or {s s' : Int32} {t : Nat} (h : t < 12) : bt (s ||| s') t ↔ bt s t ∨ bt s' t := by
  have h31 : (nI t &&& 31) = nI t := by
    have h9 : ∀ t, t < 12 → (nI t &&& 31) = nI t := by decide +kernel
    exact h9 t h
  unfold bt
  rw [h31]
  have e : ∀ z : Int32, (z >>> nI t &&& nI 1 = nI 1) ↔ z.toBitVec.getLsbD t = true := by
    intro z
    rw [← Int32.toBitVec_inj]
    have ht : (nI t).toBitVec.smod 32 = BitVec.ofNat 32 t := by
      have h9 : ∀ t, t < 12 → (nI t).toBitVec.smod 32 = BitVec.ofNat 32 t := by decide +kernel
      exact h9 t h
    rw [Int32.toBitVec_and, Int32.toBitVec_shiftRight, ht, BitVec.sshiftRight_eq', BitVec.toNat_ofNat, Nat.mod_eq_of_lt (by omega)]
    constructor
    · intro q
      have q2 := congrArg (fun b => BitVec.getLsbD b 0) q
      simp only [BitVec.getLsbD_and, BitVec.getLsbD_sshiftRight] at q2
      rw [bv1, Bool.and_true] at q2
      simpa [show t < 32 by omega] using q2
    · intro q
      apply BitVec.eq_of_getLsbD_eq
      intro i hi
      rw [BitVec.getLsbD_and, BitVec.getLsbD_sshiftRight]
      by_cases h0 : i = 0
      · subst h0
        simp [q, show t < 32 by omega]
      · have : (nI 1).toBitVec.getLsbD i = false := by
          have h9 : ∀ i, i < 32 → i ≠ 0 → (nI 1).toBitVec.getLsbD i = false := by decide +kernel
          exact h9 i hi h0
        rw [this, Bool.and_false]
  rw [e, e, e, Int32.toBitVec_or, BitVec.getLsbD_or, Bool.or_eq_true]
theorem Int32_or3 (a b c : Int32) : (a ||| b) ||| c = (a ||| c) ||| b := by
  rw [Int32.or_assoc, Int32.or_comm b c, ← Int32.or_assoc]
theorem hStep_or {fo so : Nat → Int32} {s s' : Int32} {b : Nat} (hb : b < 12) : hStep fo so (s ||| s') b = hStep fo so s b ||| hStep fo so s' b := by
  have key : ∀ m : Int32, (s ||| s') ||| m = (s ||| m) ||| s' := fun m => Int32_or3 s s' m
  have key2 : ∀ m : Int32, (s ||| s') ||| m = s ||| (s' ||| m) := fun m => Int32.or_assoc s s' m
  have key3 : ∀ m : Int32, (s ||| s') ||| m = (s ||| m) ||| (s' ||| m) := fun m => by
    rw [Int32.or_assoc s m, ← Int32.or_assoc m, Int32.or_comm m s', Int32.or_assoc s', Int32.or_self, ← Int32.or_assoc]
  unfold hStep
  by_cases hf : fo b < 0
  · rw [if_neg (fun q => q.2 hf), if_neg (fun q => q.2 hf), if_neg (fun q => q.2 hf)]
  · by_cases h1 : bt s b <;> by_cases h2 : bt s' b
    · rw [if_pos ⟨(bt_or hb).mpr (Or.inl h1), hf⟩, if_pos ⟨h1, hf⟩, if_pos ⟨h2, hf⟩]
      exact key3 _
    · rw [if_pos ⟨(bt_or hb).mpr (Or.inl h1), hf⟩, if_pos ⟨h1, hf⟩, if_neg (fun q => h2 q.1)]
      exact key _
    · rw [if_pos ⟨(bt_or hb).mpr (Or.inr h2), hf⟩, if_neg (fun q => h1 q.1), if_pos ⟨h2, hf⟩]
      exact key2 _
    · rw [if_neg (fun q => ((bt_or hb).mp q.1).elim h1 h2), if_neg (fun q => h1 q.1), if_neg (fun q => h2 q.1)]
theorem hLoop_or {fo so : Nat → Int32} : ∀ (n : Nat) (s s' : Int32), n ≤ 12 → hLoop fo so n (s ||| s') = hLoop fo so n s ||| hLoop fo so n s'
  | 0, _, _, _ => rfl
  | n + 1, s, s', h => by
    unfold hLoop
    rw [hStep_or (by omega), hLoop_or n _ _ (by omega)]
abbrev sg (a : Nat) : Int32 := nI 1 <<< (nI a &&& 31)
theorem hStep_sg {fo so : Nat → Int32} {a b : Nat} (ha : a < 12) (hb : b < 12) (h : b ≠ a) : hStep fo so (sg a) b = sg a := if_neg (fun q => h ((bt_sh hb a ha).mp q.1))
theorem hLoop_sg {fo so : Nat → Int32} {a : Nat} (ha : a < 12) : ∀ n, n ≤ a → hLoop fo so n (sg a) = sg a
  | 0, _ => rfl
  | n + 1, h => by
    unfold hLoop
    rw [hStep_sg ha (by omega) (by omega), hLoop_sg ha n (by omega)]
theorem hLoop_up {fo so : Nat → Int32} {a : Nat} (ha : a < 12) : ∀ n, a < n → n ≤ 12 → hLoop fo so n (sg a) = hLoop fo so (a + 1) (sg a)
  | 0, h, _ => by omega
  | n + 1, h, h2 => by
    by_cases e : n = a
    · rw [e]
    · have h3 := hLoop_up (fo := fo) (so := so) ha n (by omega) (by omega)
      rw [← h3]
      show hLoop fo so n (hStep fo so (sg a) n) = _
      rw [hStep_sg ha (by omega) e]
abbrev hasN (fo so : Nat → Int32) (j t : Nat) : Prop := hasI fo so j (nI t)
theorem has_leaf {fo so : Nat → Int32} {j t : Nat} (hj : j < 12) (ht : t < 12) (h : fo j < 0) : hasN fo so j t ↔ t = j := by
  show bt (hLoop fo so (j + 1) (sg j)) t ↔ t = j
  have e : hLoop fo so (j + 1) (sg j) = sg j := by
    unfold hLoop
    rw [show hStep fo so (sg j) j = sg j from if_neg (fun q => q.2 h), hLoop_sg hj j (Nat.le_refl j)]
  rw [e, bt_sh ht j hj]
theorem has_node {fo so : Nat → Int32} {j t a b : Nat} (hj : j < 12) (ht : t < 12) (ha : a < j) (hb : b < j) (e1 : fo j = nI a) (e2 : so j = nI b) : hasN fo so j t ↔ t = j ∨ hasN fo so a t ∨ hasN fo so b t := by
  show bt (hLoop fo so (j + 1) (sg j)) t ↔ t = j ∨ bt (hLoop fo so (a + 1) (sg a)) t ∨ bt (hLoop fo so (b + 1) (sg b)) t
  have hs : hStep fo so (sg j) j = sg j ||| (sg a ||| sg b) := by
    have h0 : ¬ fo j < 0 := by rw [e1]; exact nI_pos (by omega)
    refine (if_pos ⟨(bt_sh hj j hj).mpr rfl, h0⟩).trans ?_
    rw [e1, e2]
  have e : hLoop fo so (j + 1) (sg j) = sg j ||| (hLoop fo so (a + 1) (sg a) ||| hLoop fo so (b + 1) (sg b)) := by
    show hLoop fo so j (hStep fo so (sg j) j) = _
    rw [hs, hLoop_or j _ _ (by omega), hLoop_or j _ _ (by omega), hLoop_sg hj j (Nat.le_refl j), hLoop_up (by omega) j ha (by omega), hLoop_up (by omega) j hb (by omega)]
  rw [e, bt_or ht, bt_or ht, bt_sh ht j hj]
/-- only the parts of bales as far as j count -/
theorem hLoop_ext {fo so fo' so' : Nat → Int32} : ∀ (n : Nat) (s : Int32), (∀ b, b < n → fo b = fo' b ∧ so b = so' b) → hLoop fo so n s = hLoop fo' so' n s
  | 0, _, _ => rfl
  | n + 1, s, h => by
    show hLoop fo so n (hStep fo so s n) = hLoop fo' so' n (hStep fo' so' s n)
    have e : hStep fo so s n = hStep fo' so' s n := by
      unfold hStep
      rw [(h n (by omega)).1, (h n (by omega)).2]
    rw [e]
    exact hLoop_ext n _ (fun b hb => h b (by omega))
theorem has_ext {fo so fo' so' : Nat → Int32} {j : Nat} {t : Int32} (h : ∀ b, b ≤ j → fo b = fo' b ∧ so b = so' b) : hasI fo so j t ↔ hasI fo' so' j t := by
  unfold hasI
  rw [hLoop_ext (j + 1) _ (fun b hb => h b (by omega))]
