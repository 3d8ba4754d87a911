/-! THE CALLS that make objects; row, size, warm, label -/
/-- both make objects or change, or neither: the class's addresses may change -/
theorem s_mk {l : Launch} {G : va_G} {cy : Nat → ClassId} {B : Nat} {yc ym : MethodName} {cc cm : ByteArray} {mc mm : Nat} {rc rt : Option FieldType} {rm rm2 : Room} {ad b cn : Nat → Nat} {u : Nat → Nat → Int32} {w : Nat → Nat → Int64} {x : Nat → Nat → UInt64} {r : Nat → Nat → Option Nat} {dn dn1 : Nat → Nat} {v v1 : Nat → Nat → Int32} {y y1 : Nat → Nat → Int64} {z z1 : Nat → Nat → UInt64} {Ac Am : List Value} {n n2 : Value} {P Q : Prop} {iP : Decidable P} {iQ : Decidable Q} {S : (Nat → Nat) → zW → Prop} (hR : Rel ad cn u w x r dn v y z) (hc : Ct l G cy B yc cc mc rc rm ad (CF cy ad cn u w x r) (.ref (ad 0) :: Ac) (fun v9 ad' f' => v9 = some n ∧ (if P then S ad' f' else ad = ad' ∧ CF cy ad cn u w x r = f'))) (hle : rm.frames ≤ RmU.frames ∧ rm.locals ≤ RmU.locals ∧ rm.cells ≤ RmU.cells ∧ rm.slots ≤ RmU.slots) (hm : Ct l G cy B ym cm mm rt rm2 b (MF cy b dn v y z) (.ref (b 0) :: Am) (fun v9 ad' f' => v9 = some n2 ∧ b = ad' ∧ (if Q then MF cy b dn1 v1 y1 z1 else MF cy b dn v y z) = f')) (hle2 : rm2.frames ≤ RmU.frames ∧ rm2.locals ≤ RmU.locals ∧ rm2.cells ≤ RmU.cells ∧ rm2.slots ≤ RmU.slots) (hn : n = n2) (hPQ : P ↔ Q) (h1 : ∀ ad' f', P → S ad' f' → ∃ cn1 u1 w1 x1 r1, f' = CF cy ad' cn1 u1 w1 x1 r1 ∧ ad' 0 = ad 0 ∧ Rel ad' cn1 u1 w1 x1 r1 dn1 v1 y1 z1) : Ct l G cy B yc cc mc rc RmU (eo ad b) (eo (CF cy ad cn u w x r) (MF cy b dn v y z)) (.ref (ad 0) :: Ac) (fun v9 A' F' => v9 = some n ∧ Md l G cy B ym cm mm rt (ad 0) (b 0) Am (fun v2 => v2 = some n) A' F') := by
  refine ct_room RmU (ct_post (ct_e hc) ?_) hle
  rintro v9 _ _ ⟨a1, f1, ⟨h3, h4⟩, rfl, rfl⟩
  refine ⟨h3, md_of hm hle2 ?_⟩
  rintro v2 _ _ ⟨h2, rfl, rfl⟩
  refine ⟨h2.trans (congrArg some hn.symm), ?_⟩
  by_cases hP : P
  · rw [if_pos hP] at h4
    rw [if_pos (hPQ.mp hP)]
    obtain ⟨cn1, u1, w1, x1, r1, rfl, e0, hR1⟩ := h1 a1 f1 hP h4
    exact ⟨a1, b, cn1, u1, w1, x1, r1, dn1, v1, y1, z1, rfl, rfl, e0, rfl, hR1⟩
  · rw [if_neg hP] at h4
    obtain ⟨rfl, rfl⟩ := h4
    rw [if_neg (fun q => hP (hPQ.mpr q))]
    exact ⟨ad, b, cn, u, w, x, r, dn, v, y, z, rfl, rfl, rfl, rfl, hR⟩
theorem anyB_ex {p : Nat → Bool} : ∀ n, anyB p n = true ↔ ∃ i, i < n ∧ p i = true
  | 0 => ⟨fun h => absurd h Bool.false_ne_true, fun ⟨i, hi, _⟩ => absurd hi (Nat.not_lt_zero i)⟩
  | n + 1 => by
    unfold anyB
    rw [Bool.or_eq_true, anyB_ex n]
    constructor
    · rintro (⟨i, h1, h2⟩ | h)
      · exact ⟨i, by omega, h2⟩
      · exact ⟨n, by omega, h⟩
    · rintro ⟨i, h1, h2⟩
      by_cases e : i = n
      · exact Or.inr (e ▸ h2)
      · exact Or.inl ⟨i, by omega, h2⟩
theorem bale_ans {cn : Nat → Nat} {u : Nat → Nat → Int32} {w : Nat → Nat → Int64} {dn : Nat → Nat} {v : Nat → Nat → Int32} {y : Nat → Nat → Int64} {sc : Int64} (h0 : dn 0 = cn 3) (h5 : dn 5 = cn 6) (h6 : cn 6 ≤ 12) (h43 : cn 4 ≤ cn 3) (hF : RelF cn u w v y) : okBaleC cn w sc ↔ (anyB (fun f => decide (looseM v y sc f)) (dn 0) = true ∧ dn 5 ≠ 12) := by
  unfold okBaleC
  rw [anyB_ex, h0, h5]
  have hin := fun {f : Nat} (hf : f < cn 3) => into_eq (sc := sc) h6 h43 hF hf
  obtain ⟨s1, s2, -, -⟩ := scanF_spec (p := fun f => decide (¬ w 1 (cn 4 + f) ≤ sc)) (cn 3 - cn 4) 0
  generalize scanF (fun f => decide (¬ w 1 (cn 4 + f) ≤ sc)) (cn 3 - cn 4) 0 = E at hin s1 s2 ⊢
  constructor
  · rintro ⟨q1, q2⟩
    exact ⟨⟨cn 4, by omega, decide_eq_true ((hin (by omega)).mpr ⟨Nat.le_refl _, by omega⟩)⟩, by omega⟩
  · rintro ⟨⟨f, q1, q2⟩, q3⟩
    have := (hin q1).mp (of_decide_eq_true q2)
    exact ⟨by omega, by omega⟩
theorem s_bale (l : Launch) (G : va_G) (cy : Nat → ClassId) (B : Nat) {a0 a1 : Nat} {A : Nat → Nat} {F : zW} (hW : RW cy a0 a1 A F) (sc : Int64) : StI l G cy B yX3_bale yX4_bale cX3_bale cX4_bale 6 5 (some .int) a0 a1 A F [.long sc] := by
  obtain ⟨ad, b, cn, u, w, x, r, dn, v, y, z, rfl, rfl, rfl, rfl, hR⟩ := hW
  obtain ⟨⟨b1, b2, b3, b4, b5⟩, k0, k5, k14, k18, k21⟩ := rel_bd hR
  have ha := bale_ans (sc := sc) b1 b2 (by omega) hR.1.1.2.1 hR.2.2.1
  refine ct_ex (s_mk hR (p_bale l G cy B ad cn u w x r hR.1 sc (fun f hf => (hR.2.2.1.1 f hf).2.2.2.1)) (by decide) (m_bale l G cy B b dn v y z k0 k5 sc) (by decide) (congrArg Value.int (ite_iff2 ha (by rw [b2]))) ha (fun ad' f' hP hS => ?_))
  obtain ⟨a9, b9, h1, rfl⟩ := hS
  refine ⟨_, _, _, _, _, rfl, ?_, rel_bale hR hP.1 (fun k q1 q2 => ?_)⟩
  · rw [← h1, zad_ne (by omega), zad_ne (by omega)]
  · rw [← h1, zad_ne q2, zad_ne q1]
theorem s_rebale (l : Launch) (G : va_G) (cy : Nat → ClassId) (B : Nat) {a0 a1 : Nat} {A : Nat → Nat} {F : zW} (hW : RW cy a0 a1 A F) (i c : Int32) : StI l G cy B yX3_rebale yX4_rebale cX3_rebale cX4_rebale 6 4 (some .int) a0 a1 A F [.int i, .int c] := by
  obtain ⟨ad, b, cn, u, w, x, r, dn, v, y, z, rfl, rfl, rfl, rfl, hR⟩ := hW
  obtain ⟨⟨b1, b2, b3, b4, b5⟩, k0, k5, k14, k18, k21⟩ := rel_bd hR
  by_cases hi : ¬ i < 0 ∧ ¬ nI (cn 6) ≤ i
  · obtain ⟨p, hp, rfl⟩ := in_rng (by omega) hi
    by_cases hs : ¬ c < 0 ∧ ¬ nI (cn 6) ≤ c
    · obtain ⟨q, hq, rfl⟩ := in_rng (by omega) hs
      have ha := (reb_ans b2 (by omega) (hR.2.2.2.1 p hp).1.1.1 (hR.2.2.2.1 q hq).1.1.1).symm
      refine ct_ex (s_mk hR (p_rebale_i l G cy B ad cn u w x r hR.1 p hp q hq) (by decide) (m_rebale_i l G cy B b dn v y z k5 p (by omega) q (by omega)) (by decide) (congrArg Value.int (ite_iff2 ha (by rw [b2]))) ha (fun ad' f' hP hS => ?_))
      obtain ⟨a9, b9, h1, rfl⟩ := hS
      refine ⟨_, _, _, _, _, rfl, ?_, rel_rebale hR hp hq hP (fun k q1 q2 => ?_)⟩
      · rw [← h1, zad_ne (by omega), zad_ne (by omega)]
      · rw [← h1, zad_ne q2, zad_ne q1]
    · exact ct_ex (s_ro hR (p_rebale_o2 l G cy B ad cn u w x r hR.1 p hp c hs) (by decide) (m_rebale_o2 l G cy B b dn v y z k5 p (by omega) c (by rw [b2]; exact hs)) (by decide) rfl)
  · by_cases hs : ¬ c < 0 ∧ ¬ nI (cn 6) ≤ c
    · obtain ⟨q, hq, rfl⟩ := in_rng (by omega) hs
      exact ct_ex (s_ro hR (p_rebale_o1i l G cy B ad cn u w x r hR.1 i hi q hq) (by decide) (m_rebale_o1 l G cy B b dn v y z i (by rw [b2]; exact hi) (nI q)) (by decide) rfl)
    · exact ct_ex (s_ro hR (p_rebale_o1o l G cy B ad cn u w x r hR.1 i hi c hs) (by decide) (m_rebale_o1 l G cy B b dn v y z i (by rw [b2]; exact hi) c) (by decide) rfl)
theorem s_stack (l : Launch) (G : va_G) (cy : Nat → ClassId) (B : Nat) {a0 a1 : Nat} {A : Nat → Nat} {F : zW} (hW : RW cy a0 a1 A F) (g h : Int32) : StI l G cy B yX3_stack yX4_stack cX3_stack cX4_stack 3 3 (some .int) a0 a1 A F [.int g, .int h] := by
  obtain ⟨ad, b, cn, u, w, x, r, dn, v, y, z, rfl, rfl, rfl, rfl, hR⟩ := hW
  obtain ⟨⟨b1, b2, b3, b4, b5⟩, k0, k5, k14, k18, k21⟩ := rel_bd hR
  have ha : okStackC cn g h ↔ okStackM dn g h := by
    unfold okStackC okStackM
    rw [b4]
    exact and_congr_left (fun _ => ⟨fun q => by omega, fun q => by omega⟩)
  refine ct_ex (s_mk hR (p_stack l G cy B ad cn u w x r hR.1 g h) (by decide) (m_stack l G cy B b dn v y z k18 g h) (by decide) (congrArg Value.int (ite_iff2 ha (by rw [b4]))) ha (fun ad' f' hP hS => ?_))
  obtain ⟨a9, h1, rfl⟩ := hS
  refine ⟨_, _, _, _, _, rfl, ?_, rel_stack hR hP.1 (fun k q1 => ?_)⟩
  · rw [← h1, zad_ne (by omega)]
  · rw [← h1, zad_ne q1]
theorem s_lorry (l : Launch) (G : va_G) (cy : Nat → ClassId) (B : Nat) {a0 a1 : Nat} {A : Nat → Nat} {F : zW} (hW : RW cy a0 a1 A F) (g h : Int64) : StI l G cy B yX3_lorry yX4_lorry cX3_lorry cX4_lorry 5 5 (some .int) a0 a1 A F [.long g, .long h] := by
  obtain ⟨ad, b, cn, u, w, x, r, dn, v, y, z, rfl, rfl, rfl, rfl, hR⟩ := hW
  obtain ⟨⟨b1, b2, b3, b4, b5⟩, k0, k5, k14, k18, k21⟩ := rel_bd hR
  have ha : okLorryC cn g h ↔ okLorryM dn g h := by
    unfold okLorryC okLorryM
    rw [b5]
    exact and_congr_left (fun _ => ⟨fun q => by omega, fun q => by omega⟩)
  refine ct_ex (s_mk hR (p_lorry l G cy B ad cn u w x r hR.1 g h) (by decide) (m_lorry l G cy B b dn v y z k21 g h) (by decide) (congrArg Value.int (ite_iff2 ha (by rw [b5]))) ha (fun ad' f' hP hS => ?_))
  obtain ⟨a9, h1, rfl⟩ := hS
  refine ⟨_, _, _, _, _, rfl, ?_, rel_lorry hR hP.1 (fun k q1 => ?_)⟩
  · rw [← h1, zad_ne (by omega)]
  · rw [← h1, zad_ne q1]
theorem row_ans {cn : Nat → Nat} {x : Nat → Nat → UInt64} {dn : Nat → Nat} {z : Nat → Nat → UInt64} {d d' t t' : UInt64} (h0 : dn 14 = cn 9) (h6 : cn 9 ≤ 6) (hd : eqd d d') (ht : eqd t t') (hR : RelR cn x z) : okRowC cn x d t ↔ okRowM dn z d' t' := by
  unfold okRowC okRowM
  rw [h0, dGe_eqd hd (eqD_refl _), dLe_eqd hd (eqD_refl _), dGe_eqd ht (eqD_refl _), dLe_eqd ht (eqD_refl _)]
  have e : (0 < cn 9 ∧ dLe d (x 8 (cn 9 - 1)) = true) ↔ (0 < cn 9 ∧ dLe d' (z 15 (cn 9 - 1)) = true) := and_congr_right (fun q => by rw [dLe_eqd hd (hR (cn 9 - 1) (by omega)).1])
  constructor
  · rintro ⟨q1, q2, q3, q4⟩
    exact ⟨by omega, q2, q3, fun q => q4 (e.mpr q)⟩
  · rintro ⟨q1, q2, q3, q4⟩
    exact ⟨by omega, q2, q3, fun q => q4 (e.mp q)⟩
theorem s_row (l : Launch) (G : va_G) (cy : Nat → ClassId) (B : Nat) {a0 a1 : Nat} {A : Nat → Nat} {F : zW} (hW : RW cy a0 a1 A F) (d t : UInt64) : Ct l G cy B yX3_row cX3_row 5 (some .boolean) RmU A F (.ref a0 :: [.double d, .double t]) (fun v A' F' => ∃ n, v = some (.int n) ∧ ∀ d' t', dc d = dc d' → dc t = dc t' → Md l G cy B yX4_row cX4_row 5 (some .boolean) a0 a1 [.double d', .double t'] (fun v2 => v2 = some (.int n)) A' F') := by
  obtain ⟨ad, b, cn, u, w, x, r, dn, v, y, z, rfl, rfl, rfl, rfl, hR⟩ := hW
  obtain ⟨⟨b1, b2, b3, b4, b5⟩, k0, k5, k14, k18, k21⟩ := rel_bd hR
  refine ct_room RmU (ct_post (ct_e (p_row l G cy B ad cn u w x r hR.1 d t)) ?_) (by decide)
  rintro v9 _ _ ⟨a1, f1, ⟨h3, rfl, rfl⟩, rfl, rfl⟩
  refine ⟨_, h3, fun d' t' hd ht => md_of (m_row l G cy B b dn v y z k14 d' t') (by decide) ?_⟩
  rintro v2 _ _ ⟨h2, rfl, rfl⟩
  have ha := row_ans b3 (by omega) (eqd_dc hd) (eqd_dc ht) hR.2.2.2.2.2.1
  refine ⟨h2.trans (congrArg (fun q => some (Value.int q)) (b01_iff ha).symm), ?_⟩
  by_cases hP : okRowC cn x d t
  · rw [if_pos hP, if_pos (ha.mp hP)]
    exact ⟨ad, b, _, u, w, _, r, _, v, y, _, rfl, rfl, rfl, rfl, rel_row hR hP.1 (eqd_dc hd) (eqd_dc ht)⟩
  · rw [if_neg hP, if_neg (fun q => hP (ha.mpr q))]
    exact ⟨ad, b, cn, u, w, x, r, dn, v, y, z, rfl, rfl, rfl, rfl, hR⟩
theorem s_size (l : Launch) (G : va_G) (cy : Nat → ClassId) (B : Nat) {a0 a1 : Nat} {A : Nat → Nat} {F : zW} (hW : RW cy a0 a1 A F) (i : Int32) (d : UInt64) : Ct l G cy B yX3_size cX3_size 7 (some .double) RmU A F (.ref a0 :: [.int i, .double d]) (fun v A' F' => ∃ n, v = some (.double n) ∧ ∀ d', dc d = dc d' → Md l G cy B yX4_size cX4_size 6 (some .double) a0 a1 [.int i, .double d'] (fun v2 => ∃ n2, v2 = some (.double n2) ∧ eqd n n2) A' F') := by
  obtain ⟨ad, b, cn, u, w, x, r, dn, v, y, z, rfl, rfl, rfl, rfl, hR⟩ := hW
  obtain ⟨⟨b1, b2, b3, b4, b5⟩, k0, k5, k14, k18, k21⟩ := rel_bd hR
  by_cases hi : ¬ i < 0 ∧ ¬ nI (cn 6) ≤ i
  · obtain ⟨j, hj, rfl⟩ := in_rng (by omega) hi
    refine ct_room RmU (ct_post (ct_e (p_size_i l G cy B ad cn u w x r hR.1 j hj d)) ?_) (by decide)
    rintro v9 _ _ ⟨a1, f1, ⟨⟨n, h3, h4⟩, rfl, rfl⟩, rfl, rfl⟩
    refine ⟨n, h3, fun d' hd => md_of (m_size_i l G cy B b dn v y z k0 k5 j (by omega) d') (by decide) ?_⟩
    rintro v2 _ _ ⟨⟨n2, h5, h6⟩, rfl, rfl⟩
    refine ⟨⟨n2, h5, ?_⟩, ad, b, cn, u, w, x, r, dn, v, y, z, rfl, rfl, rfl, rfl, hR⟩
    rw [dGe_eqd (eqd_dc hd) (eqD_refl _), dLe_eqd (eqd_dc hd) (eqD_refl _), tot_eq (hR.2.2.2.1 j hj).1.2.2.1] at h4
    by_cases hk : dGe d' 4607182418800017408 = true ∧ dLe d' 4634204016564240384 = true
    · rw [if_pos hk] at h4 h6
      exact sizeR_eqd hd h4 h6
    · rw [if_neg hk] at h4 h6
      rw [h4, h6]
      exact eqD_refl _
  · refine ct_room RmU (ct_post (ct_e (p_size_o l G cy B ad cn u w x r hR.1 i hi d)) ?_) (by decide)
    rintro v9 _ _ ⟨a1, f1, ⟨⟨n, h3, h4⟩, rfl, rfl⟩, rfl, rfl⟩
    refine ⟨n, h3, fun d' hd => md_of (m_size_o l G cy B b dn v y z i (by rw [b2]; exact hi) d') (by decide) ?_⟩
    rintro v2 _ _ ⟨⟨n2, h5, h6⟩, rfl, rfl⟩
    refine ⟨⟨n2, h5, ?_⟩, ad, b, cn, u, w, x, r, dn, v, y, z, rfl, rfl, rfl, rfl, hR⟩
    rw [h4, h6]
    exact eqD_refl _
theorem hr_of {h : Int32} (q : 0 ≤ h.toInt64 ∧ h.toInt64 ≤ 100) : ∃ n, n ≤ 100 ∧ h = nI n := by
  have h1 := Int64.le_iff_toInt_le.mp q.1
  have h2 := Int64.le_iff_toInt_le.mp q.2
  rw [Int32.toInt_toInt64] at h1 h2
  rw [show (0 : Int64).toInt = 0 by decide] at h1
  rw [show (100 : Int64).toInt = 100 by decide] at h2
  have h0 : ¬ h < 0 := by
    rw [Int32.lt_iff_toInt_lt, show (0 : Int32).toInt = 0 by decide]
    omega
  obtain ⟨n, hn, rfl⟩ := nI_of h0
  refine ⟨n, ?_, rfl⟩
  have e : (nI n).toInt = n := by
    have := nI_clamp hn
    have h3 : (nI n).toInt.toNat = n := this
    omega
  omega
theorem s_warm (l : Launch) (G : va_G) (cy : Nat → ClassId) (B : Nat) {a0 a1 : Nat} {A : Nat → Nat} {F : zW} (hW : RW cy a0 a1 A F) (i h : Int32) (d : UInt64) : Ct l G cy B yX3_warm cX3_warm 7 (some .double) RmU A F (.ref a0 :: [.int i, .int h, .double d]) (fun v A' F' => ∃ n, v = some (.double n) ∧ ∀ d', dc d = dc d' → Md l G cy B yX4_warm cX4_warm 11 (some .double) a0 a1 [.int i, .int h, .double d'] (fun v2 => ∃ n2, v2 = some (.double n2) ∧ eqd n n2) A' F') := by
  obtain ⟨ad, b, cn, u, w, x, r, dn, v, y, z, rfl, rfl, rfl, rfl, hR⟩ := hW
  obtain ⟨⟨b1, b2, b3, b4, b5⟩, k0, k5, k14, k18, k21⟩ := rel_bd hR
  by_cases hi : ¬ i < 0 ∧ ¬ nI (cn 6) ≤ i
  · obtain ⟨j, hj, rfl⟩ := in_rng (by omega) hi
    by_cases hh : 0 ≤ h.toInt64 ∧ h.toInt64 ≤ 100
    · obtain ⟨n, hn, rfl⟩ := hr_of hh
      obtain ⟨⟨⟨i1, i2, i3, i4⟩, i5, i6, i7, i8, i9⟩, -⟩ := hR.2.2.2.1 j hj
      refine ct_room RmU (ct_post (ct_e (p_warm_i l G cy B ad cn u w x r hR.1 j hj n hn d)) ?_) (by decide)
      rintro v9 _ _ ⟨a1, f1, h3, rfl, rfl⟩
      have hcond : ∀ d', dc d = dc d' → ((¬ (u (j + 100) 4 = nI 3 ∨ u (j + 100) 4 = nI 2) ∧ dGe d 13855605728582041600 = true ∧ dLe d 4633641066610819072 = true) ↔ (¬ nI 2 ≤ v 6 j ∧ dGe d' 13855605728582041600 = true ∧ dLe d' 4633641066610819072 = true)) := by
        intro d' hd
        rw [dGe_eqd (eqd_dc hd) (eqD_refl _), dLe_eqd (eqd_dc hd) (eqD_refl _), i1]
        refine and_congr_left (fun _ => ?_)
        rcases i8 with q | q | q | q <;> rw [q] <;> decide
      by_cases hP : ¬ (u (j + 100) 4 = nI 3 ∨ u (j + 100) 4 = nI 2) ∧ dGe d 13855605728582041600 = true ∧ dLe d 4633641066610819072 = true
      · rw [if_pos hP] at h3
        obtain ⟨t, sk, sp, h4, h5, rfl, rfl⟩ := h3
        refine ⟨t, h5, fun d' hd => md_of (m_warm_i l G cy B b dn v y z k5 k14 j (by omega) n hn d') (by decide) ?_⟩
        intro v2 b1' g1 h6
        rw [if_pos ((hcond d' hd).mp hP)] at h6
        obtain ⟨t2, sk2, sp2, h7, h8, rfl, rfl⟩ := h6
        rw [b3, i3, i2] at h7
        obtain ⟨e1, e2, e3⟩ := warmR_eqd (hR.2.2.2.2.2.1) (eqd_dc hd) i5 n h4 h7
        subst e2 e3
        exact ⟨⟨t2, h8, e1⟩, ad, b, cn, _, w, _, r, dn, _, y, _, rfl, rfl, rfl, rfl, rel_warm hR hj e1⟩
      · rw [if_neg hP] at h3
        obtain ⟨h5, rfl, rfl⟩ := h3
        refine ⟨_, h5, fun d' hd => md_of (m_warm_i l G cy B b dn v y z k5 k14 j (by omega) n hn d') (by decide) ?_⟩
        intro v2 b1' g1 h6
        rw [if_neg (fun q => hP ((hcond d' hd).mpr q))] at h6
        obtain ⟨h8, rfl, rfl⟩ := h6
        exact ⟨⟨_, h8, eqD_refl _⟩, ad, b, cn, u, w, x, r, dn, v, y, z, rfl, rfl, rfl, rfl, hR⟩
    · refine ct_room RmU (ct_post (ct_e (p_warm_x l G cy B ad cn u w x r hR.1 j hj h hh d)) ?_) (by decide)
      rintro v9 _ _ ⟨a1, f1, ⟨h3, rfl, rfl⟩, rfl, rfl⟩
      refine ⟨_, h3, fun d' hd => md_of (m_warm_x l G cy B b dn v y z k5 j (by omega) h hh d') (by decide) ?_⟩
      rintro v2 _ _ ⟨h5, rfl, rfl⟩
      exact ⟨⟨_, h5, eqD_refl _⟩, ad, b, cn, u, w, x, r, dn, v, y, z, rfl, rfl, rfl, rfl, hR⟩
  · refine ct_room RmU (ct_post (ct_e (p_warm_o l G cy B ad cn u w x r hR.1 i hi h d)) ?_) (by decide)
    rintro v9 _ _ ⟨a1, f1, ⟨h3, rfl, rfl⟩, rfl, rfl⟩
    refine ⟨_, h3, fun d' hd => md_of (m_warm_o l G cy B b dn v y z i (by rw [b2]; exact hi) h d') (by decide) ?_⟩
    rintro v2 _ _ ⟨h5, rfl, rfl⟩
    exact ⟨⟨_, h5, eqD_refl _⟩, ad, b, cn, u, w, x, r, dn, v, y, z, rfl, rfl, rfl, rfl, hR⟩
/-- a label's letters -/
def labT (j W M : Nat) : Nat → Nat := fun p => if p = 0 then 66 else if p < 1 + sb_dg j then sb_dec j (p - 1) else if p = 1 + sb_dg j then 32 else if p < 1 + sb_dg j + 1 + sb_dg W then sb_dec W (p - (1 + sb_dg j + 1)) else if p = 1 + sb_dg j + 1 + sb_dg W then 32 else sb_dec M (p - (1 + sb_dg j + 1 + sb_dg W + 1))
section LAB
variable {j W M : Nat}
theorem lab_0 : labT j W M 0 = 66 := rfl
theorem lab_1 : ∀ a, a < sb_dg j → labT j W M (1 + a) = sb_dec j a := fun a ha => by
  rw [labT, if_neg (by omega), if_pos (by omega), Nat.add_sub_cancel_left]
theorem lab_2 : labT j W M (1 + sb_dg j) = 32 := by
  rw [labT, if_neg (by omega), if_neg (by omega), if_pos rfl]
theorem lab_3 : ∀ a, a < sb_dg W → labT j W M (1 + sb_dg j + 1 + a) = sb_dec W a := fun a ha => by
  rw [labT, if_neg (by omega), if_neg (by omega), if_neg (by omega), if_pos (by omega), Nat.add_sub_cancel_left]
theorem lab_4 : labT j W M (1 + sb_dg j + 1 + sb_dg W) = 32 := by
  rw [labT, if_neg (by omega), if_neg (by omega), if_neg (by omega), if_neg (by omega), if_pos rfl]
theorem lab_5 : ∀ a, a < sb_dg M → labT j W M (1 + sb_dg j + 1 + sb_dg W + 1 + a) = sb_dec M a := fun a ha => by
  rw [labT, if_neg (by omega), if_neg (by omega), if_neg (by omega), if_neg (by omega), if_neg (by omega), Nat.add_sub_cancel_left]
theorem lab_8 : ∀ a, labT j W M a < 128 := fun a => by
  have e : ∀ n i, sb_dec n i < 128 := fun n i => by
    have := Nat.mod_lt (n / 10 ^ (sb_dg n - 1 - i)) (show 0 < 10 by decide)
    unfold sb_dec
    omega
  unfold labT
  have := e j (a - 1)
  have := e W (a - (1 + sb_dg j + 1))
  have := e M (a - (1 + sb_dg j + 1 + sb_dg W + 1))
  (repeat' split) <;> omega
end LAB
theorem s_label (l : Launch) (G : va_G) (cy : Nat → ClassId) (B : Nat) {a0 a1 : Nat} {A : Nat → Nat} {F : zW} (hW : RW cy a0 a1 A F) (i k : Int32) : StI l G cy B yX3_label yX4_label cX3_label cX4_label 4 3 (some .int) a0 a1 A F [.int i, .int k] := by
  obtain ⟨ad, b, cn, u, w, x, r, dn, v, y, z, rfl, rfl, rfl, rfl, hR⟩ := hW
  obtain ⟨⟨b1, b2, b3, b4, b5⟩, k0, k5, k14, k18, k21⟩ := rel_bd hR
  by_cases hi : ¬ i < 0 ∧ ¬ nI (cn 6) ≤ i
  · obtain ⟨j, hj, rfl⟩ := in_rng (by omega) hi
    obtain ⟨⟨⟨i1, i2, i3, i4⟩, i5, i6, i7, i8, i9⟩, -⟩ := hR.2.2.2.1 j hj
    obtain ⟨W, hW9, hWm⟩ := weightM_lN (dn := dn) (v := v) (y := y) (j := j) k0 (fun f hf => by
      obtain ⟨q1, q2, q3, q4, m, q5, q6⟩ := hR.2.2.1.1 f (by omega)
      exact ⟨m, q5, q3.trans q6⟩)
    have hWc : sumL (w (j + 200)) 4 = lN W := (tot_eq i6).trans hWm
    have hM : mainL (w (j + 200)) 3 = mainM dn v y j := main_eq i6
    have hM3 : mainM dn v y j ≤ 3 := mainL_le _ 3
    have hlen : 1 + sb_dg j + 1 + sb_dg W + 1 + sb_dg (mainM dn v y j) ≤ 16 := by
      have d1 : sb_dg j ≤ 2 := by
        unfold sb_dg
        (repeat' split) <;> omega
      have d2 := dg_le9 hW9
      have d3 : sb_dg (mainM dn v y j) = 1 := if_pos (by omega)
      omega
    have h16 := hR.2.1.2.2.1
    have h17 := hR.2.1.2.2.2
    by_cases hk : k < 0
    · refine ct_room RmU (ct_post (ct_e (p_label_n l G cy B ad cn u w x r hR.1 j hj (labT j W (mainL (w (j + 200)) 3)) W hWc hW9 lab_0 lab_1 lab_2 lab_3 lab_4 lab_5 h16 h17 lab_8 k hk)) ?_) (by decide)
      rintro v9 _ _ ⟨a1, f1, ⟨h3, rfl, m9, g9, hm9, rfl⟩, rfl, rfl⟩
      refine ⟨_, h3, md_of (m_label_n l G cy B b dn v y z k5 j (by omega) k hk) (by decide) ?_⟩
      rintro v2 _ _ ⟨h5, rfl, rfl⟩
      exact ⟨h5, ad, b, _, _, w, x, r, dn, v, y, z, rfl, rfl, rfl, rfl, rel_label hR (by rw [hM]; exact hlen) hm9 (fun _ _ => rfl) rfl⟩
    · obtain ⟨p, hp, rfl⟩ := nI_of hk
      refine ct_room RmU (ct_post (ct_e (p_label_i l G cy B ad cn u w x r hR.1 j hj (labT j W (mainL (w (j + 200)) 3)) W hWc hW9 lab_0 lab_1 lab_2 lab_3 lab_4 lab_5 h16 h17 lab_8 p hp)) ?_) (by decide)
      rintro v9 _ _ ⟨a1, f1, ⟨h3, rfl, m9, g9, hm9, rfl⟩, rfl, rfl⟩
      refine ⟨_, h3, md_of (m_label_i l G cy B b dn v y z k0 k5 j (by omega) (labT j W (mainM dn v y j)) W p hp hWm hW9 lab_0 lab_1 lab_2 lab_3 lab_4 lab_5) (by decide) ?_⟩
      rintro v2 _ _ ⟨h5, rfl, rfl⟩
      refine ⟨by rw [h5, hM], ad, b, _, _, w, x, r, dn, _, y, z, rfl, rfl, rfl, rfl, rel_label hR (by rw [hM]; exact hlen) hm9 (fun c hc => va_ne hc) ?_⟩
      simp [sayU, va_up, upd]
  · exact ct_ex (s_ro hR (p_label_o l G cy B ad cn u w x r hR.1 i hi k) (by decide) (m_label_o l G cy B b dn v y z i (by rw [b2]; exact hi) k) (by decide) rfl)
