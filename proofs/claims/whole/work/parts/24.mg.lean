/-! TWO WORLDS IN ONE: the class's codes are even, the reference's odd -/
theorem ct_conseq {l : Launch} {G : va_G} {cy : Nat → ClassId} {B : Nat} {y : MethodName} {cc : ByteArray} {maxL : Nat} {ret : Option FieldType} {rm : Room} {ad adx : Nat → Nat} {f fx : zW} {av : List Value} {Post Post' : Option Value → (Nat → Nat) → zW → Prop} (h : Ct l G cy B y cc maxL ret rm ad f av Post) (pre : ∀ H, zP G B adx fx H → zP G B ad f H)
    (post : ∀ H0 H v ad' f', zP G B adx fx H0 → Post v ad' f' → zP G B ad' f' H → zF ad f ad' f' H0 H → ∃ adx' fx', Post' v adx' fx' ∧ zP G B adx' fx' H ∧ zF adx fx adx' fx' H0 H) : Ct l G cy B y cc maxL ret rm adx fx av Post' := by
  intro p e ha hc hk s m args below hf happ hP hK
  obtain ⟨n, o, h1, h2, h3, d, h4, ⟨v, ad', f', e1, e2, e3, e4⟩, L, h5, h6⟩ := h p e ha hc hk s m args below hf happ ⟨hP.1, pre _ hP.2.1, hP.2.2⟩ hK
  obtain ⟨adx', fx', g1, g2, g3⟩ := post _ _ v ad' f' hP.2.1 e2 e3 e4
  exact ⟨n, o, h1, h2, h3, d, h4, ⟨v, adx', fx', e1, g1, g2, g3⟩, L, h5, h6⟩
def eo {α : Type} (a b : Nat → α) : Nat → α := fun j => if j % 2 = 0 then a (j / 2) else b (j / 2)
theorem eo_e {α : Type} {a b : Nat → α} (k : Nat) : eo a b (2 * k) = a k := by
  unfold eo
  rw [if_pos (by omega), show 2 * k / 2 = k by omega]
theorem eo_o {α : Type} {a b : Nat → α} (k : Nat) : eo a b (2 * k + 1) = b k := by
  unfold eo
  rw [if_neg (by omega), show (2 * k + 1) / 2 = k by omega]
theorem eo_c (j : Nat) : (∃ k, j = 2 * k) ∨ ∃ k, j = 2 * k + 1 := by
  rcases Nat.mod_two_eq_zero_or_one j with h | h
  · exact Or.inl ⟨j / 2, by omega⟩
  · exact Or.inr ⟨j / 2, by omega⟩
theorem zP_lt {G : va_G} {B : Nat} {ad : Nat → Nat} {f : zW} {H : Heap} (h : zP G B ad f H) : ∀ j, f j ≠ none → ad j < H.size := by
  intro j hj
  obtain ⟨x, hx⟩ := Option.ne_none_iff_exists'.mp hj
  exact (h.1 j x hx).1.lt
theorem zP_e {G : va_G} {B : Nat} {a b : Nat → Nat} {f g : zW} {H : Heap} (h : zP G B (eo a b) (eo f g) H) : zP G B a f H := by
  refine ⟨fun k x hk => ?_, fun k j hk hj e => ?_⟩
  · have h9 := h.1 (2 * k) x (by rw [eo_e]; exact hk)
    rw [eo_e] at h9
    exact h9
  · have h9 := h.2 (2 * k) (2 * j) (by rw [eo_e]; exact hk) (by rw [eo_e]; exact hj) (by rw [eo_e, eo_e]; exact e)
    omega
theorem zP_o {G : va_G} {B : Nat} {a b : Nat → Nat} {f g : zW} {H : Heap} (h : zP G B (eo a b) (eo f g) H) : zP G B b g H := by
  refine ⟨fun k x hk => ?_, fun k j hk hj e => ?_⟩
  · have h9 := h.1 (2 * k + 1) x (by rw [eo_o]; exact hk)
    rw [eo_o] at h9
    exact h9
  · have h9 := h.2 (2 * k + 1) (2 * j + 1) (by rw [eo_o]; exact hk) (by rw [eo_o]; exact hj) (by rw [eo_o, eo_o]; exact e)
    omega
theorem zP_x {G : va_G} {B : Nat} {a b : Nat → Nat} {f g : zW} {H : Heap} (h : zP G B (eo a b) (eo f g) H) {k j : Nat} (hk : f k ≠ none) (hj : g j ≠ none) : a k ≠ b j := fun e => by
  have h9 := h.2 (2 * k) (2 * j + 1) (by rw [eo_e]; exact hk) (by rw [eo_o]; exact hj) (by rw [eo_e, eo_o]; exact e)
  omega
theorem ct_e {l : Launch} {G : va_G} {cy : Nat → ClassId} {B : Nat} {y : MethodName} {cc : ByteArray} {maxL : Nat} {ret : Option FieldType} {rm : Room} {a b : Nat → Nat} {f g : zW} {av : List Value} {Post : Option Value → (Nat → Nat) → zW → Prop} (h : Ct l G cy B y cc maxL ret rm a f av Post) : Ct l G cy B y cc maxL ret rm (eo a b) (eo f g) av (fun v ad' f' => ∃ a1 f1, Post v a1 f1 ∧ ad' = eo a1 b ∧ f' = eo f1 g) := by
  refine ct_conseq h (fun H => zP_e) (fun H0 H v a1 f1 hp0 hv hP hF => ⟨_, _, ⟨a1, f1, hv, rfl, rfl⟩, ?_, ?_⟩)
  · have lt := zP_lt (zP_o hp0)
    have xx : ∀ k j, f1 k ≠ none → g j ≠ none → a1 k ≠ b j := fun k j hk hj e => by
      rcases hF.2.2.2 k hk with h9 | h9
      · exact zP_x hp0 h9 hj ((hF.2.2.1 k h9).2 ▸ e)
      · have := lt j hj
        omega
    refine ⟨fun j x hj => ?_, fun i j hi hj e => ?_⟩
    · rcases eo_c j with ⟨k, rfl⟩ | ⟨k, rfl⟩
      · rw [eo_e] at hj ⊢
        exact hP.1 k x hj
      · rw [eo_o] at hj ⊢
        obtain ⟨h8, h9⟩ := (zP_o hp0).1 k x hj
        have hk : g k ≠ none := by rw [hj]; exact fun h => by cases h
        exact ⟨h8.kept (hF.2.1 _ (lt k hk) (fun i hi e => zP_x hp0 hi hk e)), h9⟩
    · rcases eo_c i with ⟨k, rfl⟩ | ⟨k, rfl⟩ <;> rcases eo_c j with ⟨q, rfl⟩ | ⟨q, rfl⟩
      · rw [eo_e] at hi hj
        rw [eo_e, eo_e] at e
        rw [hP.2 k q hi hj e]
      · rw [eo_e] at hi
        rw [eo_o] at hj
        rw [eo_e, eo_o] at e
        exact absurd e (xx k q hi hj)
      · rw [eo_o] at hi
        rw [eo_e] at hj
        rw [eo_e, eo_o] at e
        exact absurd e.symm (xx q k hj hi)
      · rw [eo_o] at hi hj
        rw [eo_o, eo_o] at e
        rw [(zP_o hp0).2 k q hi hj e]
  · refine ⟨hF.1, fun q hq hk => hF.2.1 q hq (fun k h8 h9 => hk (2 * k) (by rw [eo_e]; exact h8) (by rw [eo_e]; exact h9)), fun j hj => ?_, fun j hj => ?_⟩
    · rcases eo_c j with ⟨k, rfl⟩ | ⟨k, rfl⟩
      · rw [eo_e] at hj ⊢
        rw [eo_e, eo_e]
        exact hF.2.2.1 k hj
      · rw [eo_o] at hj ⊢
        rw [eo_o, eo_o]
        exact ⟨hj, rfl⟩
    · rcases eo_c j with ⟨k, rfl⟩ | ⟨k, rfl⟩
      · rw [eo_e] at hj ⊢
        rw [eo_e]
        exact hF.2.2.2 k hj
      · rw [eo_o] at hj ⊢
        exact Or.inl hj
theorem ct_o {l : Launch} {G : va_G} {cy : Nat → ClassId} {B : Nat} {y : MethodName} {cc : ByteArray} {maxL : Nat} {ret : Option FieldType} {rm : Room} {a b : Nat → Nat} {f g : zW} {av : List Value} {Post : Option Value → (Nat → Nat) → zW → Prop} (h : Ct l G cy B y cc maxL ret rm b g av Post) : Ct l G cy B y cc maxL ret rm (eo a b) (eo f g) av (fun v ad' f' => ∃ b1 g1, Post v b1 g1 ∧ ad' = eo a b1 ∧ f' = eo f g1) := by
  refine ct_conseq h (fun H => zP_o) (fun H0 H v b1 g1 hp0 hv hP hF => ⟨_, _, ⟨b1, g1, hv, rfl, rfl⟩, ?_, ?_⟩)
  · have lt := zP_lt (zP_e hp0)
    have xx : ∀ k j, g1 k ≠ none → f j ≠ none → b1 k ≠ a j := fun k j hk hj e => by
      rcases hF.2.2.2 k hk with h9 | h9
      · exact zP_x hp0 hj h9 ((hF.2.2.1 k h9).2 ▸ e).symm
      · have := lt j hj
        omega
    refine ⟨fun j x hj => ?_, fun i j hi hj e => ?_⟩
    · rcases eo_c j with ⟨k, rfl⟩ | ⟨k, rfl⟩
      · rw [eo_e] at hj ⊢
        obtain ⟨h8, h9⟩ := (zP_e hp0).1 k x hj
        have hk : f k ≠ none := by rw [hj]; exact fun h => by cases h
        exact ⟨h8.kept (hF.2.1 _ (lt k hk) (fun i hi e => zP_x hp0 hk hi e.symm)), h9⟩
      · rw [eo_o] at hj ⊢
        exact hP.1 k x hj
    · rcases eo_c i with ⟨k, rfl⟩ | ⟨k, rfl⟩ <;> rcases eo_c j with ⟨q, rfl⟩ | ⟨q, rfl⟩
      · rw [eo_e] at hi hj
        rw [eo_e, eo_e] at e
        rw [(zP_e hp0).2 k q hi hj e]
      · rw [eo_e] at hi
        rw [eo_o] at hj
        rw [eo_e, eo_o] at e
        exact absurd e.symm (xx q k hj hi)
      · rw [eo_o] at hi
        rw [eo_e] at hj
        rw [eo_e, eo_o] at e
        exact absurd e (xx k q hi hj)
      · rw [eo_o] at hi hj
        rw [eo_o, eo_o] at e
        rw [hP.2 k q hi hj e]
  · refine ⟨hF.1, fun q hq hk => hF.2.1 q hq (fun k h8 h9 => hk (2 * k + 1) (by rw [eo_o]; exact h8) (by rw [eo_o]; exact h9)), fun j hj => ?_, fun j hj => ?_⟩
    · rcases eo_c j with ⟨k, rfl⟩ | ⟨k, rfl⟩
      · rw [eo_e] at hj ⊢
        rw [eo_e, eo_e]
        exact ⟨hj, rfl⟩
      · rw [eo_o] at hj ⊢
        rw [eo_o, eo_o]
        exact hF.2.2.1 k hj
    · rcases eo_c j with ⟨k, rfl⟩ | ⟨k, rfl⟩
      · rw [eo_e] at hj ⊢
        exact Or.inl hj
      · rw [eo_o] at hj ⊢
        rw [eo_o]
        exact hF.2.2.2 k hj
/-- only what the post says is asked of the end -/
theorem ct_post {l : Launch} {G : va_G} {cy : Nat → ClassId} {B : Nat} {y : MethodName} {cc : ByteArray} {maxL : Nat} {ret : Option FieldType} {rm : Room} {ad : Nat → Nat} {f : zW} {av : List Value} {Post Post' : Option Value → (Nat → Nat) → zW → Prop} (h : Ct l G cy B y cc maxL ret rm ad f av Post) (hp : ∀ v ad' f', Post v ad' f' → Post' v ad' f') : Ct l G cy B y cc maxL ret rm ad f av Post' :=
  ct_conseq h (fun _ h => h) (fun _ _ v ad' f' _ h1 h2 h3 => ⟨ad', f', hp v ad' f' h1, h2, h3⟩)
