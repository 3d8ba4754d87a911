/-! ONE ROOM FOR ALL; BOTH OBJECTS' MEMORY; A CALL OF THE CLASS AND THEN OF THE REFERENCE -/
theorem room_le {s : State} {pl : Platform} {r r' : Room} (hf : r.frames ≤ r'.frames) (hl : r.locals ≤ r'.locals) (hc : r.cells ≤ r'.cells) (hs : r.slots ≤ r'.slots) (h : s.hasRoom pl r' = true) : s.hasRoom pl r = true := by
  unfold State.hasRoom at h ⊢
  simp only [Bool.and_eq_true, decide_eq_true_eq] at h ⊢
  obtain ⟨⟨⟨⟨g1, g2, g3, g4, g5, g6⟩, g7⟩, g8⟩, g9⟩ := h
  exact ⟨⟨⟨⟨by omega, by omega, by omega, by omega, by omega, g6⟩, by omega⟩, by omega⟩, g9⟩
theorem ct_room {l : Launch} {G : va_G} {cy : Nat → ClassId} {B : Nat} {y : MethodName} {cc : ByteArray} {maxL : Nat} {ret : Option FieldType} {rm : Room} (rm' : Room) {ad : Nat → Nat} {f : zW} {av : List Value} {Post : Option Value → (Nat → Nat) → zW → Prop} (h : Ct l G cy B y cc maxL ret rm ad f av Post) (hle : rm.frames ≤ rm'.frames ∧ rm.locals ≤ rm'.locals ∧ rm.cells ≤ rm'.cells ∧ rm.slots ≤ rm'.slots) : Ct l G cy B y cc maxL ret rm' ad f av Post := by
  intro p e ha hc hk s m args below hf happ hP hK
  obtain ⟨a1, a2, a3, a4, a5, a6, a7, a8⟩ := (Spec.appliesLoose_iff hf).mp happ
  obtain ⟨n, o, h1, h2, h3, d, h4, h5, L, h6, h7⟩ := h p e ha hc hk s m args below hf ((Spec.appliesLoose_iff hf).mpr ⟨a1, a2, a3, a4, a5, a6, room_le hle.1 hle.2.1 hle.2.2.1 hle.2.2.2 a7, a8⟩) hP hK
  exact ⟨n, o, h1, h2, h3, d, h4, h5, L, ⟨h6.1, h6.2.1, h6.2.2.mono hle.2.2.1 hle.2.2.2⟩, h7⟩
abbrev RmU : Room := { frames := 4, cells := 2, slots := 13, locals := 98 }
/-- the two objects at a0 and a1, related -/
def RW (cy : Nat → ClassId) (a0 a1 : Nat) (A : Nat → Nat) (F : zW) : Prop := ∃ ad b cn u w x r dn v y z, A = eo ad b ∧ F = eo (CF cy ad cn u w x r) (MF cy b dn v y z) ∧ ad 0 = a0 ∧ b 0 = a1 ∧ Rel ad cn u w x r dn v y z
/-- what a call of the reference would do now -/
def Md (l : Launch) (G : va_G) (cy : Nat → ClassId) (B : Nat) (y : MethodName) (cc : ByteArray) (maxL : Nat) (ret : Option FieldType) (a0 a1 : Nat) (As : List Value) (V : Option Value → Prop) (A : Nat → Nat) (F : zW) : Prop :=
  A 1 = a1 ∧ (∃ fs, F 1 = some (.inr (5, fs))) ∧ Ct l G cy B y cc maxL ret RmU A F (.ref a1 :: As) (fun v2 A2 F2 => V v2 ∧ RW cy a0 a1 A2 F2)
theorem rw_0 {cy : Nat → ClassId} {a0 a1 : Nat} {A : Nat → Nat} {F : zW} (h : RW cy a0 a1 A F) : A 0 = a0 ∧ ∃ fs, F 0 = some (.inr (4, fs)) := by
  obtain ⟨ad, b, cn, u, w, x, r, dn, v, y, z, rfl, rfl, rfl, rfl, h⟩ := h
  exact ⟨eo_e (a := ad) (b := b) 0, _, (eo_e (a := CF cy ad cn u w x r) (b := MF cy b dn v y z) 0).trans rfl⟩
theorem md_of {l : Launch} {G : va_G} {cy : Nat → ClassId} {B : Nat} {y : MethodName} {cc : ByteArray} {maxL : Nat} {ret : Option FieldType} {rm : Room} {a0 : Nat} {ad b : Nat → Nat} {f : zW} {dn : Nat → Nat} {v : Nat → Nat → Int32} {yy : Nat → Nat → Int64} {z : Nat → Nat → UInt64} {As : List Value} {Post : Option Value → (Nat → Nat) → zW → Prop} {V : Option Value → Prop} (hC : Ct l G cy B y cc maxL ret rm b (MF cy b dn v yy z) (.ref (b 0) :: As) Post) (hle : rm.frames ≤ RmU.frames ∧ rm.locals ≤ RmU.locals ∧ rm.cells ≤ RmU.cells ∧ rm.slots ≤ RmU.slots) (hp : ∀ v2 b1 g1, Post v2 b1 g1 → V v2 ∧ RW cy a0 (b 0) (eo ad b1) (eo f g1)) : Md l G cy B y cc maxL ret a0 (b 0) As V (eo ad b) (eo f (MF cy b dn v yy z)) := by
  refine ⟨eo_o (a := ad) (b := b) 0, ⟨_, (eo_o (a := f) (b := MF cy b dn v yy z) 0).trans rfl⟩, ct_room RmU (ct_post (ct_o hC) ?_) hle⟩
  rintro v2 _ _ ⟨b1, g1, h1, rfl, rfl⟩
  exact hp v2 b1 g1 h1
section STP
variable {l : Launch} {G : va_G} {cy : Nat → ClassId} {B : Nat} {yc ym : MethodName} {cc cm : ByteArray} {mc mm : Nat} {rc rt : Option FieldType} {rm rm2 : Room} {ad b cn cn1 : Nat → Nat} {u u1 : Nat → Nat → Int32} {w w1 : Nat → Nat → Int64} {x x1 : Nat → Nat → UInt64} {r r1 : Nat → Nat → Option Nat} {dn dn1 : Nat → Nat} {v v1 : Nat → Nat → Int32} {y y1 : Nat → Nat → Int64} {z z1 : Nat → Nat → UInt64} {Ac Am : List Value} {n n2 : Value}
/-- neither changes anything -/
theorem s_ro (hR : Rel ad cn u w x r dn v y z) (hc : Ct l G cy B yc cc mc rc rm ad (CF cy ad cn u w x r) (.ref (ad 0) :: Ac) (fun v9 ad' f' => v9 = some n ∧ ad = ad' ∧ CF cy ad cn u w x r = f')) (hle : rm.frames ≤ RmU.frames ∧ rm.locals ≤ RmU.locals ∧ rm.cells ≤ RmU.cells ∧ rm.slots ≤ RmU.slots) (hm : Ct l G cy B ym cm mm rt rm2 b (MF cy b dn v y z) (.ref (b 0) :: Am) (fun v9 ad' f' => v9 = some n2 ∧ b = ad' ∧ MF cy b dn v y z = f')) (hle2 : rm2.frames ≤ RmU.frames ∧ rm2.locals ≤ RmU.locals ∧ rm2.cells ≤ RmU.cells ∧ rm2.slots ≤ RmU.slots) (hn : n = n2) : Ct l G cy B yc cc mc rc RmU (eo ad b) (eo (CF cy ad cn u w x r) (MF cy b dn v y z)) (.ref (ad 0) :: Ac) (fun v9 A' F' => v9 = some n ∧ Md l G cy B ym cm mm rt (ad 0) (b 0) Am (fun v2 => v2 = some n) A' F') := by
  refine ct_room RmU (ct_post (ct_e hc) ?_) hle
  rintro v9 _ _ ⟨a1, f1, ⟨h1, rfl, rfl⟩, rfl, rfl⟩
  refine ⟨h1, md_of hm hle2 ?_⟩
  rintro v2 _ _ ⟨h2, rfl, rfl⟩
  exact ⟨h2.trans (congrArg some hn.symm), ad, b, cn, u, w, x, r, dn, v, y, z, rfl, rfl, rfl, rfl, hR⟩
/-- both change, or neither -/
theorem s_if {P Q : Prop} {iP : Decidable P} {iQ : Decidable Q} (hR : Rel ad cn u w x r dn v y z) (hc : Ct l G cy B yc cc mc rc rm ad (CF cy ad cn u w x r) (.ref (ad 0) :: Ac) (fun v9 ad' f' => v9 = some n ∧ ad = ad' ∧ (if P then CF cy ad cn1 u1 w1 x1 r1 else CF cy ad cn u w x r) = f')) (hle : rm.frames ≤ RmU.frames ∧ rm.locals ≤ RmU.locals ∧ rm.cells ≤ RmU.cells ∧ rm.slots ≤ RmU.slots) (hm : Ct l G cy B ym cm mm rt rm2 b (MF cy b dn v y z) (.ref (b 0) :: Am) (fun v9 ad' f' => v9 = some n2 ∧ b = ad' ∧ (if Q then MF cy b dn1 v1 y1 z1 else MF cy b dn v y z) = f')) (hle2 : rm2.frames ≤ RmU.frames ∧ rm2.locals ≤ RmU.locals ∧ rm2.cells ≤ RmU.cells ∧ rm2.slots ≤ RmU.slots) (hn : n = n2) (hPQ : P ↔ Q) (h1 : P → Rel ad cn1 u1 w1 x1 r1 dn1 v1 y1 z1) : Ct l G cy B yc cc mc rc RmU (eo ad b) (eo (CF cy ad cn u w x r) (MF cy b dn v y z)) (.ref (ad 0) :: Ac) (fun v9 A' F' => v9 = some n ∧ Md l G cy B ym cm mm rt (ad 0) (b 0) Am (fun v2 => v2 = some n) A' F') := by
  refine ct_room RmU (ct_post (ct_e hc) ?_) hle
  rintro v9 _ _ ⟨a1, f1, ⟨h3, rfl, rfl⟩, rfl, rfl⟩
  refine ⟨h3, md_of hm hle2 ?_⟩
  rintro v2 _ _ ⟨h2, rfl, rfl⟩
  refine ⟨h2.trans (congrArg some hn.symm), ?_⟩
  by_cases hP : P
  · rw [if_pos hP, if_pos (hPQ.mp hP)]
    exact ⟨ad, b, cn1, u1, w1, x1, r1, dn1, v1, y1, z1, rfl, rfl, rfl, rfl, h1 hP⟩
  · rw [if_neg hP, if_neg (fun q => hP (hPQ.mpr q))]
    exact ⟨ad, b, cn, u, w, x, r, dn, v, y, z, rfl, rfl, rfl, rfl, hR⟩
end STP
theorem in_rng {b : Int32} {n : Nat} (hn : n < 2 ^ 31) (h : ¬ b < 0 ∧ ¬ nI n ≤ b) : ∃ j, j < n ∧ b = nI j := by
  obtain ⟨j, hj, rfl⟩ := nI_of h.1
  exact ⟨j, (nI_ltI hj hn).mp (Int32.not_le.mp h.2), rfl⟩
theorem b01_iff {P Q : Prop} [Decidable P] [Decidable Q] (h : P ↔ Q) : nI (if P then 1 else 0) = nI (if Q then 1 else 0) := by
  by_cases hP : P
  · rw [if_pos hP, if_pos (h.mp hP)]
  · rw [if_neg hP, if_neg (fun q => hP (h.mpr q))]
theorem ite_iff {α : Type} {P Q : Prop} [Decidable P] [Decidable Q] (h : P ↔ Q) {a c : α} : (if P then a else c) = if Q then a else c := by
  by_cases hP : P
  · rw [if_pos hP, if_pos (h.mp hP)]
  · rw [if_neg hP, if_neg (fun q => hP (h.mpr q))]
theorem ite_iff2 {α : Type} {P Q : Prop} [Decidable P] [Decidable Q] (h : P ↔ Q) {a a2 c : α} (e : a = a2) : (if P then a else c) = if Q then a2 else c := by
  rw [e]
  exact ite_iff h
