/-! DOUBLES: what they stand for; zeros of either sign are taken as one -/
abbrev Dt : Type := Jvm.FP.Core.Datum
def eqD (a b : Dt) : Prop := a = b ∨ ∃ s t q, a = .fin s 0 q ∧ b = .fin t 0 q
def dc (x : UInt64) : Dt := Jvm.FP.Core.decode Jvm.FP.Core.b64 x.toNat
abbrev eqd (x y : UInt64) : Prop := eqD (dc x) (dc y)
theorem eqD_refl (a : Dt) : eqD a a := Or.inl rfl
theorem eqD_symm {a b : Dt} (h : eqD a b) : eqD b a := by
  rcases h with rfl | ⟨s, t, q, h1, h2⟩
  · exact Or.inl rfl
  · exact Or.inr ⟨t, s, q, h2, h1⟩
theorem sg0 (s : Bool) (q e : Int) : Jvm.FP.Core.signed s (Jvm.FP.Core.inUnits 0 q e) = 0 := by
  unfold Jvm.FP.Core.signed Jvm.FP.Core.inUnits
  rw [Nat.zero_mul]
  cases s <;> rfl
theorem sum_ff {s t s' t' : Bool} {c d : Nat} {q r : Int} (hV : Jvm.FP.Core.sumUnits s c q t d r (min q r) = Jvm.FP.Core.sumUnits s' c q t' d r (min q r)) : eqD (Jvm.FP.Core.exactSum (.fin s c q) (.fin t d r)) (Jvm.FP.Core.exactSum (.fin s' c q) (.fin t' d r)) := by
  show eqD (.fin (Jvm.FP.Core.sumSign s t (Jvm.FP.Core.sumUnits s c q t d r (min q r))) (Jvm.FP.Core.sumUnits s c q t d r (min q r)).natAbs (min q r)) (.fin (Jvm.FP.Core.sumSign s' t' (Jvm.FP.Core.sumUnits s' c q t' d r (min q r))) (Jvm.FP.Core.sumUnits s' c q t' d r (min q r)).natAbs (min q r))
  rw [← hV]
  generalize Jvm.FP.Core.sumUnits s c q t d r (min q r) = V
  by_cases h : V = 0
  · subst h
    exact Or.inr ⟨_, _, _, rfl, rfl⟩
  · refine Or.inl ?_
    unfold Jvm.FP.Core.sumSign
    rw [if_neg h, if_neg h]
theorem sum_eq {a a' b b' : Dt} (ha : eqD a a') (hb : eqD b b') : eqD (Jvm.FP.Core.exactSum a b) (Jvm.FP.Core.exactSum a' b') := by
  rcases ha with rfl | ⟨s, t, q, rfl, rfl⟩ <;> rcases hb with rfl | ⟨s2, t2, q2, rfl, rfl⟩
  · exact Or.inl rfl
  · cases a with
    | nan => exact Or.inl rfl
    | inf s => exact Or.inl rfl
    | fin s c q =>
      refine sum_ff ?_
      unfold Jvm.FP.Core.sumUnits
      rw [sg0, sg0]
  · cases b with
    | nan => exact Or.inl rfl
    | inf s => exact Or.inl rfl
    | fin s c q =>
      refine sum_ff ?_
      unfold Jvm.FP.Core.sumUnits
      rw [sg0, sg0]
  · refine sum_ff ?_
    unfold Jvm.FP.Core.sumUnits
    rw [sg0, sg0, sg0, sg0]
theorem mul_eqD {a a' : Dt} (b : Dt) (ha : eqD a a') : eqD (Jvm.FP.Core.exactProduct a b) (Jvm.FP.Core.exactProduct a' b) := by
  rcases ha with rfl | ⟨s, t, q, rfl, rfl⟩
  · exact Or.inl rfl
  · cases b with
    | nan => exact Or.inl rfl
    | inf u => exact Or.inl rfl
    | fin u d r =>
      show eqD (.fin _ (0 * d) _) (.fin _ (0 * d) _)
      rw [Nat.zero_mul]
      exact Or.inr ⟨_, _, _, rfl, rfl⟩
theorem neg_eqD {a a' : Dt} (ha : eqD a a') : eqD (Jvm.FP.Core.negate a) (Jvm.FP.Core.negate a') := by
  rcases ha with rfl | ⟨s, t, q, rfl, rfl⟩
  · exact Or.inl rfl
  · exact Or.inr ⟨_, _, _, rfl, rfl⟩
theorem ord_eqD {a a' b b' : Dt} (ha : eqD a a') (hb : eqD b b') : Jvm.FP.Core.order a b = Jvm.FP.Core.order a' b' := by
  rcases ha with rfl | ⟨s, t, q, rfl, rfl⟩ <;> rcases hb with rfl | ⟨s2, t2, q2, rfl, rfl⟩
  · rfl
  · cases a with
    | nan => rfl
    | inf s => rfl
    | fin s c q =>
      unfold Jvm.FP.Core.order
      simp only [sg0]
  · cases b with
    | nan => rfl
    | inf s => rfl
    | fin s c q =>
      unfold Jvm.FP.Core.order
      simp only [sg0]
  · unfold Jvm.FP.Core.order
    simp only [sg0]
theorem enc0 : ∀ s, dc (.ofNat (Jvm.FP.Core.encode Jvm.FP.Core.b64 (.fin s 0 Jvm.FP.Core.b64.qmin))) = .fin s 0 Jvm.FP.Core.b64.qmin := by decide +kernel
theorem rnd_eqD {a b : Dt} (h : eqD a b) : eqD (dc (.ofNat (Jvm.FP.Core.encode Jvm.FP.Core.b64 (Jvm.FP.Core.round Jvm.FP.Core.b64 a)))) (dc (.ofNat (Jvm.FP.Core.encode Jvm.FP.Core.b64 (Jvm.FP.Core.round Jvm.FP.Core.b64 b)))) := by
  rcases h with rfl | ⟨s, t, q, rfl, rfl⟩
  · exact Or.inl rfl
  · refine Or.inr ⟨s, t, Jvm.FP.Core.b64.qmin, ?_, ?_⟩
    · exact enc0 s
    · exact enc0 t
theorem nan_dc {x : UInt64} (h : isNaN64 x = true) : dc x = .nan := by
  have h1 := isNaN64_iff.mp h
  have hx := x.toNat_lt
  unfold dc
  generalize x.toNat = n at h1 hx
  rw [show (0x7fffffffffffffff : Nat) = 2 ^ 63 - 1 from rfl, Nat.and_two_pow_sub_one_eq_mod] at h1
  have e1 : Jvm.FP.Core.fieldE Jvm.FP.Core.b64 n = Jvm.FP.Core.b64.exps - 1 := by
    show n / 4503599627370496 % 2048 = 2047
    omega
  have e2 : ¬ Jvm.FP.Core.fieldT Jvm.FP.Core.b64 n = 0 := by
    show ¬ n % 4503599627370496 = 0
    omega
  unfold Jvm.FP.Core.decode
  rw [if_pos e1, if_neg e2]
theorem alike_dc {x y : UInt64} (h : alike64 x y = true) : dc x = dc y := by
  unfold alike64 at h
  rcases (Bool.or_eq_true _ _).mp h with h | h
  · rw [of_decide_eq_true h]
  · obtain ⟨h1, h2⟩ := (Bool.and_eq_true _ _).mp h
    rw [nan_dc h1, nan_dc h2]
theorem eqd_of {x y a b : UInt64} (h1 : alike64 x a = true) (h2 : alike64 y b = true) (h : eqd a b) : eqd x y := by
  unfold eqd
  rw [alike_dc h1, alike_dc h2]
  exact h
theorem dadd_eqd {x x' y y' r r' : UInt64} (hx : eqd x x') (hy : eqd y y') (h : alike64 r (FP.dadd x y) = true) (h' : alike64 r' (FP.dadd x' y') = true) : eqd r r' := eqd_of h h' (rnd_eqD (sum_eq hx hy))
theorem dsub_eqd {x x' y y' r r' : UInt64} (hx : eqd x x') (hy : eqd y y') (h : alike64 r (FP.dsub x y) = true) (h' : alike64 r' (FP.dsub x' y') = true) : eqd r r' := eqd_of h h' (rnd_eqD (sum_eq hx (neg_eqD hy)))
theorem dmul_eqd {x x' k r r' : UInt64} (hx : eqd x x') (h : alike64 r (FP.dmul x k) = true) (h' : alike64 r' (FP.dmul x' k) = true) : eqd r r' := eqd_of h h' (rnd_eqD (mul_eqD _ hx))
/-- the quotient by one datum -/
theorem ddiv_eqd {x y y' r r' : UInt64} {x' : UInt64} (hx : dc x = dc x') (hy : dc y = dc y') (h : alike64 r (FP.ddiv x y) = true) (h' : alike64 r' (FP.ddiv x' y') = true) : eqd r r' := eqd_of h h' (Or.inl (by
  show dc (.ofNat (Jvm.FP.Core.encode _ (Jvm.FP.Core.quotient _ (dc x) (dc y)))) = dc (.ofNat (Jvm.FP.Core.encode _ (Jvm.FP.Core.quotient _ (dc x') (dc y'))))
  rw [hx, hy]))
theorem cmp_eqd {x x' y y' : UInt64} (hx : eqd x x') (hy : eqd y y') : FP.dcmp x y = FP.dcmp x' y' := ord_eqD hx hy
theorem dGe_eqd {x x' y y' : UInt64} (hx : eqd x x') (hy : eqd y y') : dGe x y = dGe x' y' := by unfold dGe; rw [cmp_eqd hx hy]
theorem dLe_eqd {x x' y y' : UInt64} (hx : eqd x x') (hy : eqd y y') : dLe x y = dLe x' y' := by unfold dLe; rw [cmp_eqd hx hy]
theorem dGt_eqd {x x' y y' : UInt64} (hx : eqd x x') (hy : eqd y y') : dGt x y = dGt x' y' := by unfold dGt; rw [cmp_eqd hx hy]
theorem cmpI_self (v : Int) : compare v v = .eq := by
  show compareOfLessAndEq v v = .eq
  unfold compareOfLessAndEq
  rw [if_neg (Int.lt_irrefl v), if_pos rfl]
theorem ord_self (a : Dt) : Jvm.FP.Core.order a a = some .eq ∨ a = .nan := by
  cases a with
  | nan => exact Or.inr rfl
  | inf s => refine Or.inl ?_; cases s <;> rfl
  | fin s c q =>
    refine Or.inl ?_
    exact congrArg some (cmpI_self _)
/-- equal, or neither a number -/
theorem eqd_end {x y : UInt64} (h : eqd x y) : FP.dcmp x y = some .eq ∨ (dc x = .nan ∧ dc y = .nan) := by
  have e : FP.dcmp x y = FP.dcmp y y := cmp_eqd h (eqD_refl _)
  rcases ord_self (dc y) with h1 | h1
  · exact Or.inl (e.trans h1)
  · refine Or.inr ⟨?_, h1⟩
    rcases h with h2 | ⟨s, t, q, -, h2⟩
    · rw [h2, h1]
    · rw [h1] at h2
      cases h2
theorem cmpI_eq {v w : Int} (h : compare v w = .eq) : v = w := by
  have h2 : compareOfLessAndEq v w = .eq := h
  unfold compareOfLessAndEq at h2
  by_cases h3 : v < w
  · rw [if_pos h3] at h2
    cases h2
  · rw [if_neg h3] at h2
    by_cases h4 : v = w
    · exact h4
    · rw [if_neg h4] at h2
      cases h2
theorem dc_fin {x : UInt64} {s : Bool} {c : Nat} {q : Int} (h : dc x = .fin s c q) : c < 9007199254740992 ∧ -1074 ≤ q ∧ (q = -1074 ∨ 4503599627370496 ≤ c) := by
  unfold dc Jvm.FP.Core.decode at h
  have et : Jvm.FP.Core.fieldT Jvm.FP.Core.b64 x.toNat < 4503599627370496 := Nat.mod_lt _ (by decide)
  have eq0 : Jvm.FP.Core.b64.qmin = -1074 := by decide +kernel
  have etl : Jvm.FP.Core.b64.tails = 4503599627370496 := by decide +kernel
  rw [eq0, etl] at h
  by_cases h1 : Jvm.FP.Core.fieldE Jvm.FP.Core.b64 x.toNat = Jvm.FP.Core.b64.exps - 1
  · rw [if_pos h1] at h
    by_cases h2 : Jvm.FP.Core.fieldT Jvm.FP.Core.b64 x.toNat = 0
    · rw [if_pos h2] at h
      cases h
    · rw [if_neg h2] at h
      cases h
  · rw [if_neg h1] at h
    by_cases h2 : Jvm.FP.Core.fieldE Jvm.FP.Core.b64 x.toNat = 0
    · rw [if_pos h2] at h
      injection h with e1 e2 e3
      omega
    · rw [if_neg h2] at h
      injection h with e1 e2 e3
      omega
theorem un_lt {c d : Nat} {q r : Int} (hqr : q < r) (hc : c < 9007199254740992) (hq : -1074 ≤ q) (hd : r = -1074 ∨ 4503599627370496 ≤ d) (h : c * 2 ^ (q - min q r).toNat = d * 2 ^ (r - min q r).toNat) : False := by
  rw [show min q r = q by omega, Int.sub_self, show (0 : Int).toNat = 0 from rfl, Nat.pow_zero, Nat.mul_one] at h
  obtain ⟨k, hk⟩ : ∃ k : Nat, (r - q).toNat = k + 1 := ⟨(r - q).toNat - 1, by omega⟩
  rw [hk, Nat.pow_succ] at h
  have h1 : 4503599627370496 ≤ d := by omega
  have h2 : 1 ≤ 2 ^ k := Nat.pow_pos (by decide)
  have h3 : 4503599627370496 * (1 * 2) ≤ d * (2 ^ k * 2) := Nat.mul_le_mul h1 (Nat.mul_le_mul_right 2 h2)
  omega
theorem un_eq {c d : Nat} {q r : Int} (hc : c < 9007199254740992) (hd : d < 9007199254740992) (hq : -1074 ≤ q) (hr : -1074 ≤ r) (hc2 : q = -1074 ∨ 4503599627370496 ≤ c) (hd2 : r = -1074 ∨ 4503599627370496 ≤ d) (h : Jvm.FP.Core.inUnits c q (min q r) = Jvm.FP.Core.inUnits d r (min q r)) : c = d ∧ q = r := by
  unfold Jvm.FP.Core.inUnits at h
  rcases Int.lt_trichotomy q r with h1 | h1 | h1
  · exact absurd h (fun h => un_lt h1 hc hq hd2 h)
  · subst h1
    rw [show min q q = q by omega, Int.sub_self, show (0 : Int).toNat = 0 from rfl, Nat.pow_zero, Nat.mul_one, Nat.mul_one] at h
    exact ⟨h, rfl⟩
  · rw [show min q r = min r q by omega] at h
    exact absurd h.symm (fun h => un_lt h1 hd hr hc2 h)
theorem in0 {c : Nat} {q e : Int} (h : Jvm.FP.Core.inUnits c q e = 0) : c = 0 := by
  unfold Jvm.FP.Core.inUnits at h
  rcases Nat.mul_eq_zero.mp h with h | h
  · exact h
  · exact absurd h (Nat.ne_of_gt (Nat.pow_pos (by decide)))
theorem ord_eqd {a b : UInt64} (h : FP.dcmp a b = some .eq) : eqd a b := by
  have h1 : Jvm.FP.Core.order (dc a) (dc b) = some .eq := h
  unfold eqd
  rcases ha : dc a with _ | s | ⟨s, c, q⟩ <;> rcases hb : dc b with _ | t | ⟨t, d, r⟩ <;> rw [ha, hb] at h1
  · cases h1
  · cases h1
  · cases h1
  · cases h1
  · cases s <;> cases t <;> first | exact Or.inl rfl | exact absurd h1 (by decide)
  · exact absurd (cmpI_eq (Option.some.inj h1)) (by cases s <;> decide)
  · cases h1
  · exact absurd (cmpI_eq (Option.some.inj h1)) (by cases t <;> decide)
  · obtain ⟨a1, a2, a3⟩ := dc_fin ha
    obtain ⟨b1, b2, b3⟩ := dc_fin hb
    have h2 := cmpI_eq (Option.some.inj h1)
    generalize hu : Jvm.FP.Core.inUnits c q (min q r) = X at h2
    generalize hv : Jvm.FP.Core.inUnits d r (min q r) = Y at h2
    unfold Jvm.FP.Core.signed at h2
    by_cases h0 : X = 0
    · have y0 : Y = 0 := by
        subst h0
        cases s <;> cases t <;> simp only [if_true, if_false, Bool.false_eq_true] at h2 <;> omega
      rw [h0] at hu
      rw [y0] at hv
      have c0 := in0 hu
      have d0 := in0 hv
      subst c0 d0
      obtain rfl : q = r := by omega
      exact Or.inr ⟨s, t, q, rfl, rfl⟩
    · have e : s = t ∧ X = Y := by
        cases s <;> cases t <;> simp only [if_true, if_false, Bool.false_eq_true] at h2 <;> constructor <;> first | rfl | omega
      obtain ⟨e1, e2⟩ := un_eq a1 b1 a2 b2 a3 b3 (hu.trans (e.2.trans hv.symm))
      rw [e.1, e1, e2]
      exact Or.inl rfl
/-- the greater one, by ≥ or by > -/
theorem max_eqd {a b a' b' : UInt64} (ha : eqd a a') (hb : eqd b b') : eqd (if dGe a b = true then a else b) (if dGt a' b' = true then a' else b') := by
  have e : dGt a' b' = dGt a b := (dGt_eqd ha hb).symm
  rw [e]
  unfold dGe dGt
  rcases hc : FP.dcmp a b with _ | o
  · simpa using hb
  · cases o
    · simpa using hb
    · simp only [if_true, Bool.false_eq_true, if_false]
      rw [cmp_eqd (eqD_refl (dc a)) hb] at hc
      exact ord_eqd hc
    · simpa using ha
