/-! THE CALLS, one theorem each: equal answers, related memories -/
theorem ct_ex {l : Launch} {G : va_G} {cy : Nat → ClassId} {B : Nat} {y : MethodName} {cc : ByteArray} {maxL : Nat} {ret : Option FieldType} {rm : Room} {ad : Nat → Nat} {f : zW} {av : List Value} {n : Int32} {M : Int32 → (Nat → Nat) → zW → Prop} (h : Ct l G cy B y cc maxL ret rm ad f av (fun v A' F' => v = some (.int n) ∧ M n A' F')) : Ct l G cy B y cc maxL ret rm ad f av (fun v A' F' => ∃ n, v = some (.int n) ∧ M n A' F') := ct_post h (fun _ _ _ q => ⟨n, q⟩)
theorem ct_exL {l : Launch} {G : va_G} {cy : Nat → ClassId} {B : Nat} {y : MethodName} {cc : ByteArray} {maxL : Nat} {ret : Option FieldType} {rm : Room} {ad : Nat → Nat} {f : zW} {av : List Value} {n : Int64} {M : Int64 → (Nat → Nat) → zW → Prop} (h : Ct l G cy B y cc maxL ret rm ad f av (fun v A' F' => v = some (.long n) ∧ M n A' F')) : Ct l G cy B y cc maxL ret rm ad f av (fun v A' F' => ∃ n, v = some (.long n) ∧ M n A' F') := ct_post h (fun _ _ _ q => ⟨n, q⟩)
/-- the answer an int; then the reference's -/
abbrev StI (l : Launch) (G : va_G) (cy : Nat → ClassId) (B : Nat) (yc ym : MethodName) (cc cm : ByteArray) (mc mm : Nat) (rt : Option FieldType) (a0 a1 : Nat) (A : Nat → Nat) (F : zW) (As : List Value) : Prop :=
  Ct l G cy B yc cc mc rt RmU A F (.ref a0 :: As) (fun v A' F' => ∃ n, v = some (.int n) ∧ Md l G cy B ym cm mm rt a0 a1 As (fun v2 => v2 = some (.int n)) A' F')
abbrev StL (l : Launch) (G : va_G) (cy : Nat → ClassId) (B : Nat) (yc ym : MethodName) (cc cm : ByteArray) (mc mm : Nat) (rt : Option FieldType) (a0 a1 : Nat) (A : Nat → Nat) (F : zW) (As : List Value) : Prop :=
  Ct l G cy B yc cc mc rt RmU A F (.ref a0 :: As) (fun v A' F' => ∃ n, v = some (.long n) ∧ Md l G cy B ym cm mm rt a0 a1 As (fun v2 => v2 = some (.long n)) A' F')
theorem rel_bd {ad cn : Nat → Nat} {u : Nat → Nat → Int32} {w : Nat → Nat → Int64} {x : Nat → Nat → UInt64} {r : Nat → Nat → Option Nat} {dn : Nat → Nat} {v : Nat → Nat → Int32} {y : Nat → Nat → Int64} {z : Nat → Nat → UInt64} (h : Rel ad cn u w x r dn v y z) : (dn 0 = cn 3 ∧ dn 5 = cn 6 ∧ dn 14 = cn 9 ∧ dn 18 = cn 12 ∧ dn 21 = cn 14) ∧ (dn 0 ≤ 200 ∧ dn 5 ≤ 12 ∧ dn 14 ≤ 6 ∧ dn 18 ≤ 4 ∧ dn 21 ≤ 3) := by
  obtain ⟨⟨⟨a1, a2, a3, a4, a5, a6⟩, a7⟩, ⟨⟨b1, b2, b3, b4, b5⟩, b6⟩, -⟩ := h
  exact ⟨⟨b1, b2, b3, b4, b5⟩, by omega, by omega, by omega, by omega, by omega⟩
theorem feed_ans {cn : Nat → Nat} {u : Nat → Nat → Int32} {w : Nat → Nat → Int64} {dn : Nat → Nat} {v : Nat → Nat → Int32} {y : Nat → Nat → Int64} {k : Int32} {sc g : Int64} (h0 : dn 0 = cn 3) (h2 : cn 3 ≤ 200) (hF : RelF cn u w v y) : okFeedC cn w sc k g ↔ okFeedM dn y sc k g := by
  unfold okFeedC okFeedM
  rw [h0]
  have e : ∀ P : Prop, (0 < cn 3 ∧ sc < w 1 (cn 3 - 1)) ↔ (0 < cn 3 ∧ sc < y 1 (cn 3 - 1)) := fun _ => and_congr_right (fun q => by rw [(hF.1 (cn 3 - 1) (by omega)).1])
  constructor
  · rintro ⟨q1, q2, q3, q4, q5⟩
    exact ⟨by omega, q2, q3, q4, fun q => q5 ((e True).mpr q)⟩
  · rintro ⟨q1, q2, q3, q4, q5⟩
    exact ⟨by omega, q2, q3, q4, fun q => q5 ((e True).mp q)⟩
theorem s_feed (l : Launch) (G : va_G) (cy : Nat → ClassId) (B : Nat) {a0 a1 : Nat} {A : Nat → Nat} {F : zW} (hW : RW cy a0 a1 A F) (sc : Int64) (k : Int32) (g : Int64) : StI l G cy B yX3_feed yX4_feed cX3_feed cX4_feed 6 6 (some .boolean) a0 a1 A F [.long sc, .int k, .long g] := by
  obtain ⟨ad, b, cn, u, w, x, r, dn, v, y, z, rfl, rfl, rfl, rfl, hR⟩ := hW
  obtain ⟨⟨b1, b2, b3, b4, b5⟩, k0, k5, k14, k18, k21⟩ := rel_bd hR
  have ha := feed_ans (sc := sc) (k := k) (g := g) b1 (by omega) hR.2.2.1
  exact ct_ex (s_if hR (p_feed l G cy B ad cn u w x r hR.1 sc k g) (by decide) (m_feed l G cy B b dn v y z k0 sc k g) (by decide) (congrArg Value.int (b01_iff ha)) ha (fun q => rel_feed hR q))
theorem s_in (l : Launch) (G : va_G) (cy : Nat → ClassId) (B : Nat) {a0 a1 : Nat} {A : Nat → Nat} {F : zW} (hW : RW cy a0 a1 A F) (i k : Int32) : StL l G cy B yX3_in yX4_in cX3_in cX4_in 4 3 (some .long) a0 a1 A F [.int i, .int k] := by
  obtain ⟨ad, b, cn, u, w, x, r, dn, v, y, z, rfl, rfl, rfl, rfl, hR⟩ := hW
  obtain ⟨⟨b1, b2, b3, b4, b5⟩, k0, k5, k14, k18, k21⟩ := rel_bd hR
  by_cases hi : ¬ i < 0 ∧ ¬ nI (cn 6) ≤ i
  · obtain ⟨j, hj, rfl⟩ := in_rng (by omega) hi
    refine ct_exL (s_ro hR (p_in_i l G cy B ad cn u w x r hR.1 j hj k) (by decide) (m_in_i l G cy B b dn v y z k0 k5 j (by omega) k) (by decide) (congrArg Value.long ?_))
    by_cases hk : okKind k
    · rw [if_pos hk, if_pos hk, in_eq (hR.2.2.2.1 j hj).1.2.2.1 hk]
    · rw [if_neg hk, if_neg hk]
  · exact ct_exL (s_ro hR (p_in_o l G cy B ad cn u w x r hR.1 i hi k) (by decide) (m_in_o l G cy B b dn v y z i (by rw [b2]; exact hi) k) (by decide) rfl)
theorem s_count (l : Launch) (G : va_G) (cy : Nat → ClassId) (B : Nat) {a0 a1 : Nat} {A : Nat → Nat} {F : zW} (hW : RW cy a0 a1 A F) (k : Int32) : StL l G cy B yX3_count yX4_count cX3_count cX4_count 5 5 (some .long) a0 a1 A F [.int k] := by
  obtain ⟨ad, b, cn, u, w, x, r, dn, v, y, z, rfl, rfl, rfl, rfl, hR⟩ := hW
  obtain ⟨⟨b1, b2, b3, b4, b5⟩, k0, k5, k14, k18, k21⟩ := rel_bd hR
  refine ct_exL (s_ro hR (p_count l G cy B ad cn u w x r hR.1 k) (by decide) (m_count l G cy B b dn v y z k0 k) (by decide) (congrArg Value.long ?_))
  obtain ⟨c1, c2, c3, c4⟩ := hR.2.2.1
  have h43 := hR.1.1.2.1
  by_cases hk : okKind k
  · rw [if_pos hk, if_pos hk, count_eq (a := cn 4) (m := cn 3 - cn 4) (by omega) (fun f hf => by
      obtain ⟨t, ht, e⟩ := c2 f hf
      rw [e]
      exact nI_pos (by omega)) (fun f h1 h2 => c3 f h1 (by omega))]
    refine sumL_congr _ (fun i hi => ?_)
    obtain ⟨q1, q2, q3, -⟩ := c1 (cn 4 + i) (by omega)
    rw [q2, q3]
  · rw [if_neg hk, if_neg hk]
theorem s_wires (l : Launch) (G : va_G) (cy : Nat → ClassId) (B : Nat) {a0 a1 : Nat} {A : Nat → Nat} {F : zW} (hW : RW cy a0 a1 A F) (i : Int32) : StI l G cy B yX3_wires yX4_wires cX3_wires cX4_wires 5 4 (some .int) a0 a1 A F [.int i] := by
  obtain ⟨ad, b, cn, u, w, x, r, dn, v, y, z, rfl, rfl, rfl, rfl, hR⟩ := hW
  obtain ⟨⟨b1, b2, b3, b4, b5⟩, k0, k5, k14, k18, k21⟩ := rel_bd hR
  by_cases hi : ¬ i < 0 ∧ ¬ nI (cn 6) ≤ i
  · obtain ⟨j, hj, rfl⟩ := in_rng (by omega) hi
    refine ct_ex (s_ro hR (p_wires_i l G cy B ad cn u w x r hR.1 j hj) (by decide) (m_wires_i l G cy B b dn v y z k0 k5 j (by omega)) (by decide) (congrArg Value.int ?_))
    rw [tot_eq (hR.2.2.2.1 j hj).1.2.2.1, Int64.sub_eq_add_neg, Int64.add_assoc]
    rfl
  · exact ct_ex (s_ro hR (p_wires_o l G cy B ad cn u w x r hR.1 i hi) (by decide) (m_wires_o l G cy B b dn v y z i (by rw [b2]; exact hi)) (by decide) rfl)
theorem s_state (l : Launch) (G : va_G) (cy : Nat → ClassId) (B : Nat) {a0 a1 : Nat} {A : Nat → Nat} {F : zW} (hW : RW cy a0 a1 A F) (i : Int32) : StI l G cy B yX3_state yX4_state cX3_state cX4_state 3 2 (some .int) a0 a1 A F [.int i] := by
  obtain ⟨ad, b, cn, u, w, x, r, dn, v, y, z, rfl, rfl, rfl, rfl, hR⟩ := hW
  obtain ⟨⟨b1, b2, b3, b4, b5⟩, k0, k5, k14, k18, k21⟩ := rel_bd hR
  by_cases hi : ¬ i < 0 ∧ ¬ nI (cn 6) ≤ i
  · obtain ⟨j, hj, rfl⟩ := in_rng (by omega) hi
    exact ct_ex (s_ro hR (p_state_i l G cy B ad cn u w x r hR.1 j hj) (by decide) (m_state_i l G cy B b dn v y z k5 j (by omega)) (by decide) (congrArg Value.int (hR.2.2.2.1 j hj).1.1.1.symm))
  · exact ct_ex (s_ro hR (p_state_o l G cy B ad cn u w x r hR.1 i hi) (by decide) (m_state_o l G cy B b dn v y z i (by rw [b2]; exact hi)) (by decide) rfl)
theorem s_hold (l : Launch) (G : va_G) (cy : Nat → ClassId) (B : Nat) {a0 a1 : Nat} {A : Nat → Nat} {F : zW} (hW : RW cy a0 a1 A F) (h : Int32) : StI l G cy B yX3_hold yX4_hold cX3_hold cX4_hold 2 2 (some .boolean) a0 a1 A F [.int h] := by
  obtain ⟨ad, b, cn, u, w, x, r, dn, v, y, z, rfl, rfl, rfl, rfl, hR⟩ := hW
  exact ct_ex (s_if hR (p_hold l G cy B ad cn u w x r hR.1 h) (by decide) (m_hold l G cy B b dn v y z h) (by decide) rfl Iff.rfl (fun _ => rel_hold hR))
theorem s_alarm (l : Launch) (G : va_G) (cy : Nat → ClassId) (B : Nat) {a0 a1 : Nat} {A : Nat → Nat} {F : zW} (hW : RW cy a0 a1 A F) (k : Int32) : StI l G cy B yX3_alarm yX4_alarm cX3_alarm cX4_alarm 4 4 (some .int) a0 a1 A F [.int k] := by
  obtain ⟨ad, b, cn, u, w, x, r, dn, v, y, z, rfl, rfl, rfl, rfl, hR⟩ := hW
  obtain ⟨⟨b1, b2, b3, b4, b5⟩, k0, k5, k14, k18, k21⟩ := rel_bd hR
  exact ct_ex (s_ro hR (p_alarm l G cy B ad cn u w x r hR.1 k) (by decide) (m_alarm l G cy B b dn v y z k5 k) (by decide) (congrArg Value.int (alarm_ans hR).symm))
theorem s_put (l : Launch) (G : va_G) (cy : Nat → ClassId) (B : Nat) {a0 a1 : Nat} {A : Nat → Nat} {F : zW} (hW : RW cy a0 a1 A F) (i st : Int32) : StI l G cy B yX3_put yX4_put cX3_put cX4_put 5 8 (some .int) a0 a1 A F [.int i, .int st] := by
  obtain ⟨ad, b, cn, u, w, x, r, dn, v, y, z, rfl, rfl, rfl, rfl, hR⟩ := hW
  obtain ⟨⟨b1, b2, b3, b4, b5⟩, k0, k5, k14, k18, k21⟩ := rel_bd hR
  by_cases hi : ¬ i < 0 ∧ ¬ nI (cn 6) ≤ i
  · obtain ⟨j, hj, rfl⟩ := in_rng (by omega) hi
    by_cases hs : ¬ st < 0 ∧ ¬ nI (cn 12) ≤ st
    · obtain ⟨s9, hs9, rfl⟩ := in_rng (by omega) hs
      have ha := put_ans hR hj hs9
      refine ct_ex (s_if hR (p_put_i l G cy B ad cn u w x r hR.1 j hj s9 hs9 (fun c hc q => (hR.2.2.2.1 c hc).1.2.2.2.2.2 q)) (by decide) (m_put_i l G cy B b dn v y z k0 k5 k18 (fun c hc q => ?_) j (by omega) s9 (by omega)) (by decide) (by rw [ha]) (by rw [ha]) (fun q => rel_put hR hj ?_ hs9))
      · obtain ⟨⟨i1, i2, i3, i4⟩, i5, i6, i7, i8, i9⟩ := (hR.2.2.2.1 c (by omega)).1
        rw [i1] at q
        obtain ⟨t, ht, e⟩ := i9 q
        exact ⟨t, by omega, i4.trans e⟩
      · by_cases q9 : u (j + 100) 4 = 0
        · exact q9
        · have q8 : putC cn u w x j s9 = 2 := if_pos q9
          omega
    · exact ct_ex (s_ro hR (p_put_o2 l G cy B ad cn u w x r hR.1 j hj st hs) (by decide) (m_put_o2 l G cy B b dn v y z k5 j (by omega) st (by rw [b4]; exact hs)) (by decide) rfl)
  · by_cases hs : ¬ st < 0 ∧ ¬ nI (cn 12) ≤ st
    · obtain ⟨s9, hs9, rfl⟩ := in_rng (by omega) hs
      exact ct_ex (s_ro hR (p_put_o1i l G cy B ad cn u w x r hR.1 i hi s9 hs9) (by decide) (m_put_o1 l G cy B b dn v y z i (by rw [b2]; exact hi) (nI s9)) (by decide) rfl)
    · exact ct_ex (s_ro hR (p_put_o1o l G cy B ad cn u w x r hR.1 i hi st hs) (by decide) (m_put_o1 l G cy B b dn v y z i (by rw [b2]; exact hi) st) (by decide) rfl)
theorem s_first (l : Launch) (G : va_G) (cy : Nat → ClassId) (B : Nat) {a0 a1 : Nat} {A : Nat → Nat} {F : zW} (hW : RW cy a0 a1 A F) (k : Int32) : StI l G cy B yX3_first yX4_first cX3_first cX4_first 4 3 (some .int) a0 a1 A F [.int k] := by
  obtain ⟨ad, b, cn, u, w, x, r, dn, v, y, z, rfl, rfl, rfl, rfl, hR⟩ := hW
  obtain ⟨⟨b1, b2, b3, b4, b5⟩, k0, k5, k14, k18, k21⟩ := rel_bd hR
  have ha := first_ans (k := k) hR
  refine ct_ex (s_if hR (p_first l G cy B ad cn u w x r hR.1 k) (by decide) (m_first l G cy B b dn v y z k0 k5 k) (by decide) (by rw [ha, b2]) (by rw [ha, b2]) (fun q => ?_))
  rw [ha]
  refine rel_first hR q ?_
  have h9 := (scanF_spec (p := fun b => decide (firstC u w k b)) (cn 6) 0).2.2.2 (by omega)
  exact (of_decide_eq_true h9).1
theorem pt_of {pt : Int32} (h : okPart pt) : pt = 0 ∨ pt = nI 1 := by
  have h1 := Int64.le_iff_toInt_le.mp h.1
  have h2 := Int64.le_iff_toInt_le.mp h.2
  rw [Int32.toInt_toInt64] at h1 h2
  rw [show (0 : Int64).toInt = 0 by decide] at h1
  rw [show (1 : Int64).toInt = 1 by decide] at h2
  have h3 : pt.toInt = 0 ∨ pt.toInt = 1 := by omega
  rcases h3 with h3 | h3
  · exact Or.inl (Int32.toInt_inj.mp (h3.trans (by decide)))
  · exact Or.inr (Int32.toInt_inj.mp (h3.trans (by decide)))
theorem s_moment (l : Launch) (G : va_G) (cy : Nat → ClassId) (B : Nat) {a0 a1 : Nat} {A : Nat → Nat} {F : zW} (hW : RW cy a0 a1 A F) (i pt : Int32) : StL l G cy B yX3_moment yX4_moment cX3_moment cX4_moment 4 3 (some .long) a0 a1 A F [.int i, .int pt] := by
  obtain ⟨ad, b, cn, u, w, x, r, dn, v, y, z, rfl, rfl, rfl, rfl, hR⟩ := hW
  obtain ⟨⟨b1, b2, b3, b4, b5⟩, k0, k5, k14, k18, k21⟩ := rel_bd hR
  by_cases hi : ¬ i < 0 ∧ ¬ nI (cn 14) ≤ i
  · obtain ⟨li, hli, rfl⟩ := in_rng (by omega) hi
    obtain ⟨i1, i2, ct, i3, i4, i5, i6, i7, i8⟩ := hR.2.2.2.2.2.2.2.1 li hli
    refine ct_exL (s_ro hR (p_moment_i l G cy B ad cn u w x r hR.1 li hli pt) (by decide) (m_moment_i l G cy B b dn v y z k0 k21 li ct (by omega) i4 i3 (fun q hq => ?_) pt) (by decide) (congrArg Value.long ?_))
    · obtain ⟨t, ht, e⟩ := i6 q hq
      exact ⟨t, by omega, e⟩
    · by_cases hp : okPart pt
      · rw [if_pos hp, if_pos hp, i7, i8]
        rcases pt_of hp with rfl | rfl <;> rfl
      · rw [if_neg hp, if_neg hp]
  · exact ct_exL (s_ro hR (p_moment_o l G cy B ad cn u w x r hR.1 i hi pt) (by decide) (m_moment_o l G cy B b dn v y z i (by rw [b5]; exact hi) pt) (by decide) rfl)
theorem s_load (l : Launch) (G : va_G) (cy : Nat → ClassId) (B : Nat) {a0 a1 : Nat} {A : Nat → Nat} {F : zW} (hW : RW cy a0 a1 A F) (i c : Int32) : StI l G cy B yX3_load yX4_load cX3_load cX4_load 5 6 (some .int) a0 a1 A F [.int i, .int c] := by
  obtain ⟨ad, b, cn, u, w, x, r, dn, v, y, z, rfl, rfl, rfl, rfl, hR⟩ := hW
  obtain ⟨⟨b1, b2, b3, b4, b5⟩, k0, k5, k14, k18, k21⟩ := rel_bd hR
  by_cases hi : ¬ i < 0 ∧ ¬ nI (cn 14) ≤ i
  · obtain ⟨li, hli, rfl⟩ := in_rng (by omega) hi
    by_cases hs : ¬ c < 0 ∧ ¬ nI (cn 6) ≤ c
    · obtain ⟨j, hj, rfl⟩ := in_rng (by omega) hs
      obtain ⟨i1, i2, ct, i3, i4, i5, i6, i7, i8⟩ := hR.2.2.2.2.2.2.2.1 li hli
      have ha := load_ans (ad := ad) (r := r) (hR.2.2.2.1 j hj).1 i1 i2 i3 i7 i8
      refine ct_ex (s_if hR (p_load_i l G cy B ad cn u w x r hR.1 li ct hli i5 i3 j hj) (by decide) (m_load_i l G cy B b dn v y z k0 k5 k21 li ct (by omega) i4 i3 (fun q hq => ?_) j (by omega)) (by decide) (congrArg Value.int (ite_iff ha.symm)) ha.symm (fun q => rel_load hR hj hli i5 q.2.2.1))
      obtain ⟨t, ht, e⟩ := i6 q hq
      exact ⟨t, by omega, e⟩
    · exact ct_ex (s_ro hR (p_load_o2 l G cy B ad cn u w x r hR.1 li hli c hs) (by decide) (m_load_o2 l G cy B b dn v y z k21 li (by omega) c (by rw [b2]; exact hs)) (by decide) rfl)
  · by_cases hs : ¬ c < 0 ∧ ¬ nI (cn 6) ≤ c
    · obtain ⟨j, hj, rfl⟩ := in_rng (by omega) hs
      exact ct_ex (s_ro hR (p_load_o1i l G cy B ad cn u w x r hR.1 i hi j hj) (by decide) (m_load_o1 l G cy B b dn v y z i (by rw [b5]; exact hi) (nI j)) (by decide) rfl)
    · exact ct_ex (s_ro hR (p_load_o1o l G cy B ad cn u w x r hR.1 i hi c hs) (by decide) (m_load_o1 l G cy B b dn v y z i (by rw [b5]; exact hi) c) (by decide) rfl)
theorem s_brought (l : Launch) (G : va_G) (cy : Nat → ClassId) (B : Nat) {a0 a1 : Nat} {A : Nat → Nat} {F : zW} (hW : RW cy a0 a1 A F) (i k pt : Int32) : StL l G cy B yX3_brought yX4_brought cX3_brought cX4_brought 6 4 (some .long) a0 a1 A F [.int i, .int k, .int pt] := by
  obtain ⟨ad, b, cn, u, w, x, r, dn, v, y, z, rfl, rfl, rfl, rfl, hR⟩ := hW
  obtain ⟨⟨b1, b2, b3, b4, b5⟩, k0, k5, k14, k18, k21⟩ := rel_bd hR
  have hfo : ∀ c, c < dn 5 → ¬ v 12 c < 0 → ∃ a1 a2, a1 < 12 ∧ a2 < 12 ∧ v 12 c = nI a1 ∧ v 13 c = nI a2 := by
    intro c hc q
    rcases (hR.2.2.2.1 c (by omega)).2 with ⟨p, -⟩ | ⟨p1, p2, q1, q2, q3, q4, q5, -⟩
    · exact absurd p q
    · exact ⟨p1, p2, by omega, by omega, q4, q5⟩
  by_cases hi : ¬ i < 0 ∧ ¬ nI (cn 6) ≤ i
  · obtain ⟨j, hj, rfl⟩ := in_rng (by omega) hi
    have hm := m_brought_i l G cy B b dn v y z k0 k5 hfo j (by omega) k pt
    rcases (hR.2.2.2.1 j hj).2 with ⟨p1, p2, p3⟩ | ⟨p1, p2, q1, q2, q3, q4, q5, q6, q7⟩
    · refine ct_exL (s_ro hR (p_brought_n l G cy B ad cn u w x r hR.1 j hj p2 p3 k pt) (by decide) hm (by decide) (congrArg Value.long ?_))
      rw [if_pos p1]
    · refine ct_exL (s_ro hR (p_brought_p l G cy B ad cn u w x r hR.1 j hj p1 p2 (by omega) (by omega) q6 q7 k pt) (by decide) hm (by decide) (congrArg Value.long ?_))
      have q0 : ¬ v 12 j < 0 := by rw [q4]; exact nI_pos (by omega)
      rw [if_neg q0, q4, q5, nI_clamp (by omega), nI_clamp (by omega)]
      by_cases hk : okKind k ∧ okPart pt
      · rw [if_pos hk, if_pos hk, in_eq (hR.2.2.2.1 p1 (by omega)).1.2.2.1 hk.1, in_eq (hR.2.2.2.1 p2 (by omega)).1.2.2.1 hk.1]
      · rw [if_neg hk, if_neg hk]
  · exact ct_exL (s_ro hR (p_brought_o l G cy B ad cn u w x r hR.1 i hi k pt) (by decide) (m_brought_o l G cy B b dn v y z i (by rw [b2]; exact hi) k pt) (by decide) rfl)
