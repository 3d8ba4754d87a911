/-! BALE keeps the relation -/
theorem scanF_spec {p : Nat → Bool} : ∀ n i, i ≤ scanF p n i ∧ scanF p n i ≤ i + n ∧ (∀ j, i ≤ j → j < scanF p n i → p j = false) ∧ (scanF p n i < i + n → p (scanF p n i) = true)
  | 0, i => ⟨Nat.le_refl i, Nat.le_refl i, fun j h1 h2 => absurd h2 (Nat.not_lt.mpr h1), fun h => absurd h (Nat.lt_irrefl i)⟩
  | n + 1, i => by
    obtain ⟨h1, h2, h3, h4⟩ := scanF_spec (p := p) n (i + 1)
    by_cases h : p i = true
    · have e : scanF p (n + 1) i = i := if_pos h
      rw [e]
      exact ⟨Nat.le_refl i, by omega, fun j h5 h6 => by omega, fun _ => h⟩
    · have e : scanF p (n + 1) i = scanF p n (i + 1) := if_neg h
      rw [e]
      refine ⟨by omega, by omega, fun j h5 h6 => ?_, fun h5 => h4 (by omega)⟩
      by_cases e2 : j = i
      · rw [e2]
        exact Bool.eq_false_iff.mpr h
      · exact h3 j (by omega) h6
/-- the parts of bales are older bales -/
abbrev oldP (v : Nat → Nat → Int32) (b : Nat) : Prop := v 12 b < 0 ∨ ∃ a1 a2, a1 < b ∧ a2 < b ∧ v 12 b = nI a1 ∧ v 13 b = nI a2
theorem oldP_of {ad : Nat → Nat} {r : Nat → Nat → Option Nat} {v : Nat → Nat → Int32} {b : Nat} (h : RelP ad r v b) : oldP v b := by
  rcases h with ⟨h, _⟩ | ⟨a1, a2, h1, h2, _, h3, h4, _⟩
  · exact Or.inl h
  · exact Or.inr ⟨a1, a2, h1, h2, h3, h4⟩
theorem has_le {v : Nat → Nat → Int32} {t : Nat} (ht : t < 12) : ∀ n j, j ≤ n → j < 12 → (∀ b, b ≤ j → oldP v b) → hasN (v 12) (v 13) j t → t ≤ j := by
  intro n
  induction n with
  | zero =>
    intro j hj hj2 hP h
    rcases hP j (Nat.le_refl j) with q | ⟨a1, a2, h1, h2, h3, h4⟩
    · rw [(has_leaf hj2 ht q).mp h]
      exact Nat.le_refl j
    · omega
  | succ n ih =>
    intro j hj hj2 hP h
    rcases hP j (Nat.le_refl j) with q | ⟨a1, a2, h1, h2, h3, h4⟩
    · rw [(has_leaf hj2 ht q).mp h]
      exact Nat.le_refl j
    · rcases (has_node hj2 ht h1 h2 h3 h4).mp h with q | q | q
      · omega
      · have := ih a1 (by omega) (by omega) (fun b hb => hP b (by omega)) q
        omega
      · have := ih a2 (by omega) (by omega) (fun b hb => hP b (by omega)) q
        omega
theorem old_has {v v' : Nat → Nat → Int32} {N : Nat} (h12 : ∀ b, b < N → v' 12 b = v 12 b) (h13 : ∀ b, b < N → v' 13 b = v 13 b) {j : Nat} (hj : j < N) (t : Int32) : hasI (v' 12) (v' 13) j t ↔ hasI (v 12) (v 13) j t := has_ext (fun b hb => ⟨h12 b (by omega), h13 b (by omega)⟩)
theorem old_grams {dn dn' : Nat → Nat} {v v' : Nat → Nat → Int32} {y : Nat → Nat → Int64} {N : Nat} (h0 : dn' 0 = dn 0) (hN : N < 12) (hP : ∀ b, b < N → oldP v b) (h12 : ∀ b, b < N → v' 12 b = v 12 b) (h13 : ∀ b, b < N → v' 13 b = v 13 b) (h2 : v' 2 = v 2) (h4 : ∀ f, f < dn 0 → v' 4 f = v 4 f ∨ (v 4 f < 0 ∧ v' 4 f = nI N)) {j : Nat} (hj : j < N) (k : Int32) : gramsM dn' v' y j k = gramsM dn v y j k := by
  refine gramsM_congr h0 (fun f hf => ⟨?_, rfl⟩)
  have hh := old_has h12 h13 hj
  rcases h4 f hf with e | ⟨e1, e2⟩
  · rw [e, h2, hh]
  · constructor
    · intro q
      rw [e2, hh] at q
      have := has_le (v := v) hN j j (Nat.le_refl j) (by omega) (fun b hb => hP b (by omega)) q.2.2
      omega
    · intro q
      exact absurd e1 q.1
theorem old_load {dn dn' : Nat → Nat} {v v' : Nat → Nat → Int32} {y : Nat → Nat → Int64} {N : Nat} (hN : N ≤ 12) (hg : ∀ j, j < N → ∀ k, gramsM dn' v' y j k = gramsM dn v y j k) {li mm ct : Nat} (h24 : ∀ i, i < ct → v' 24 (8 * li + i) = v 24 (8 * li + i)) (hb : ∀ i, i < ct → ∃ b, b < N ∧ v 24 (8 * li + i) = nI b) : loadM dn' v' y li mm ct = loadM dn v y li mm ct := by
  unfold loadM
  refine sumL_congr ct (fun i hi => ?_)
  obtain ⟨b, h1, h2⟩ := hb i hi
  rw [h24 i hi, h2, nI_clamp (by omega)]
  unfold weightM
  simp only [hg b h1]
/-- which feeds go into a new bale -/
theorem into_eq {cn : Nat → Nat} {u : Nat → Nat → Int32} {w : Nat → Nat → Int64} {v : Nat → Nat → Int32} {y : Nat → Nat → Int64} {sc : Int64} (h6 : cn 6 ≤ 12) (h43 : cn 4 ≤ cn 3) (c : RelF cn u w v y) {f : Nat} (hf : f < cn 3) : looseM v y sc f ↔ cn 4 ≤ f ∧ f < cn 4 + scanF (fun f => decide (¬ w 1 (cn 4 + f) ≤ sc)) (cn 3 - cn 4) 0 := by
  obtain ⟨c1, c2, c3, c4⟩ := c
  obtain ⟨s1, s2, s3, s4⟩ := scanF_spec (p := fun f => decide (¬ w 1 (cn 4 + f) ≤ sc)) (cn 3 - cn 4) 0
  generalize scanF (fun f => decide (¬ w 1 (cn 4 + f) ≤ sc)) (cn 3 - cn 4) 0 = E at s1 s2 s3 s4 ⊢
  constructor
  · rintro ⟨h1, h2⟩
    have h3 : cn 4 ≤ f := by
      rcases Nat.lt_or_ge f (cn 4) with q | q
      · obtain ⟨b, hb, e⟩ := c2 f q
        rw [e] at h1
        exact absurd h1 (nI_pos (by omega))
      · exact q
    refine ⟨h3, ?_⟩
    rcases Nat.lt_or_ge f (cn 4 + E) with q | q
    · exact q
    · have h5 := of_decide_eq_true (s4 (by omega))
      rw [(c1 f hf).1] at h2
      exact absurd (Int64.le_trans (c4 (cn 4 + E) f q hf) h2) h5
  · rintro ⟨h1, h2⟩
    refine ⟨c3 f h1 hf, ?_⟩
    have h5 := of_decide_eq_false (s3 (f - cn 4) (Nat.zero_le _) (by omega))
    rw [show cn 4 + (f - cn 4) = f by omega] at h5
    rw [(c1 f hf).1]
    exact Decidable.not_not.mp h5
theorem rel_bale {ad ad' cn : Nat → Nat} {u : Nat → Nat → Int32} {w : Nat → Nat → Int64} {x : Nat → Nat → UInt64} {r : Nat → Nat → Option Nat} {dn : Nat → Nat} {v : Nat → Nat → Int32} {y : Nat → Nat → Int64} {z : Nat → Nat → UInt64} {sc : Int64} (hR : Rel ad cn u w x r dn v y z) (hc : cn 6 < 12) (hA : ∀ k, k ≠ cn 6 + 100 → k ≠ cn 6 + 200 → ad' k = ad k) : Rel ad' (va_up (va_up (nwC cn) 4 (cn 4 + scanF (fun f => decide (¬ w 1 (cn 4 + f) ≤ sc)) (cn 3 - cn 4) 0)) 6 (cn 6 + 1)) (nwU u (cn 6 + 100)) (va_up w (cn 6 + 200) (gAcc (u 2) (w 3) (cn 4) (scanF (fun f => decide (¬ w 1 (cn 4 + f) ≤ sc)) (cn 3 - cn 4) 0))) (nwX x (cn 6 + 100)) (va_up (nwR r (cn 6 + 100)) 6 (va_up (nwR r (cn 6 + 100) 6) (cn 6) (some (ad' (cn 6 + 100))))) (va_up dn 5 (dn 5 + 1)) (mkU (va_up v 4 (intoM v y (dn 5) sc (dn 0))) (dn 5)) y (mkX z (dn 5)) := by
  obtain ⟨⟨⟨a1, a2, a3, a4, a5, a6⟩, ⟨a7, a8, a9⟩, r6, r12, r14⟩, ⟨⟨b1, b2, b3, b4, b5⟩, b6, b7, b8⟩, cF, d1, e1, f1, g1, l1, z1⟩ := hR
  have hin := fun {f : Nat} (hf : f < cn 3) => into_eq (sc := sc) a3 a2 cF hf
  obtain ⟨s1, s2, -, -⟩ := scanF_spec (p := fun f => decide (¬ w 1 (cn 4 + f) ≤ sc)) (cn 3 - cn 4) 0
  generalize scanF (fun f => decide (¬ w 1 (cn 4 + f) ≤ sc)) (cn 3 - cn 4) 0 = E at hin s1 s2 ⊢
  obtain ⟨c1, c2, c3, c4⟩ := cF
  rw [b1, b2]
  have hP : ∀ b, b < cn 6 → oldP v b := fun b hb => oldP_of (d1 b hb).2
  have k4 : ∀ f, f < cn 3 → intoM v y (cn 6) sc (cn 3) f = if cn 4 ≤ f ∧ f < cn 4 + E then nI (cn 6) else v 4 f := by
    intro f hf
    unfold intoM
    by_cases h : looseM v y sc f
    · rw [if_pos ⟨hf, h⟩, if_pos ((hin hf).mp h)]
    · rw [if_neg (fun q => h q.2), if_neg (fun q => h ((hin hf).mpr q))]
  have k4a : ∀ f, f < cn 4 → intoM v y (cn 6) sc (cn 3) f = v 4 f := fun f hf => (k4 f (by omega)).trans (if_neg (by omega))
  have k4b : ∀ f, cn 4 ≤ f → f < cn 4 + E → intoM v y (cn 6) sc (cn 3) f = nI (cn 6) := fun f h1 h2 => (k4 f (by omega)).trans (if_pos ⟨h1, h2⟩)
  have k4c : ∀ f, cn 4 + E ≤ f → f < cn 3 → intoM v y (cn 6) sc (cn 3) f = v 4 f := fun f h1 h2 => (k4 f (by omega)).trans (if_neg (by omega))
  generalize hv' : mkU (va_up v 4 (intoM v y (cn 6) sc (cn 3))) (cn 6) = v'
  have w4 : v' 4 = intoM v y (cn 6) sc (cn 3) := by rw [← hv']; rfl
  have w2 : v' 2 = v 2 := by rw [← hv']; rfl
  have w8 : v' 8 = v 8 := by rw [← hv']; rfl
  have w9 : v' 9 = v 9 := by rw [← hv']; rfl
  have w0 : v' 0 = v 0 := by rw [← hv']; rfl
  have w19 : v' 19 = v 19 := by rw [← hv']; rfl
  have w20 : v' 20 = v 20 := by rw [← hv']; rfl
  have w24 : v' 24 = v 24 := by rw [← hv']; rfl
  have w25 : v' 25 = v 25 := by rw [← hv']; rfl
  have w6 : v' 6 = upd (v 6) (cn 6) (nI 0) := by rw [← hv']; rfl
  have w10 : v' 10 = upd (v 10) (cn 6) (-1) := by rw [← hv']; rfl
  have w11 : v' 11 = upd (v 11) (cn 6) (-1) := by rw [← hv']; rfl
  have w12 : v' 12 = upd (v 12) (cn 6) (-1) := by rw [← hv']; rfl
  have w13 : v' 13 = upd (v 13) (cn 6) (-1) := by rw [← hv']; rfl
  clear hv'
  have n12 : ∀ b, b < cn 6 → v' 12 b = v 12 b := fun b hb => by rw [w12]; exact pk_un (by omega)
  have n13 : ∀ b, b < cn 6 → v' 13 b = v 13 b := fun b hb => by rw [w13]; exact pk_un (by omega)
  have gm : ∀ j, j < cn 6 → ∀ k, gramsM (va_up dn 5 (cn 6 + 1)) v' y j k = gramsM dn v y j k := by
    intro j hj k
    refine old_grams (dn := dn) (dn' := va_up dn 5 (cn 6 + 1)) rfl hc hP n12 n13 w2 (fun f hf => ?_) hj k
    rw [b1] at hf
    rw [w4]
    rcases Nat.lt_or_ge f (cn 4) with q | q
    · exact Or.inl (k4a f q)
    · rcases Nat.lt_or_ge f (cn 4 + E) with q2 | q2
      · exact Or.inr ⟨c3 f q hf, k4b f q q2⟩
      · exact Or.inl (k4c f q2 hf)
  have hleaf : v' 12 (cn 6) < 0 := by rw [w12, pk_us]; decide
  have gN : ∀ k, k < 4 → gAcc (u 2) (w 3) (cn 4) E k = gramsM (va_up dn 5 (cn 6 + 1)) v' y (cn 6) (nI k) := by
    intro k hk
    rw [gAcc_sum E (fun i hi => (c1 (cn 4 + i) (by omega)).2.2.2.1) k hk]
    rw [gramsM_leaf (a := cn 4) (m := E) hc hleaf (by show cn 4 + E ≤ dn 0; omega) (fun f hf => by
      obtain ⟨t, ht, et⟩ := c2 f hf
      exact ⟨t, by omega, by omega, by rw [w4, k4a f hf]; exact et⟩) (fun f h1 h2 => by rw [w4]; exact k4b f h1 h2) (fun f h1 h2 => by
      have h2' : f < dn 0 := h2
      rw [w4, k4c f h1 (by omega)]
      exact c3 f (by omega) (by omega))]
    refine sumL_congr E (fun i hi => ?_)
    obtain ⟨q1, q2, q3, -⟩ := c1 (cn 4 + i) (by omega)
    rw [w2, q2, q3]
  refine ⟨⟨⟨a1, by show cn 4 + E ≤ cn 3; omega, by show cn 6 + 1 ≤ 12; omega, a4, a5, a6⟩, ⟨rfl, a8, a9⟩, fun i hi => ?_, fun i hi => ?_, fun i hi => ?_⟩, ⟨⟨b1, rfl, b3, b4, b5⟩, ?_, ?_, b8⟩, ⟨fun f hf => ?_, fun f hf => ?_, fun f hf hf2 => ?_, c4⟩, fun b hb => ?_, fun a b ha hb hab h2 h3 t ht => ?_, fun i hi => ?_, fun s hs => ?_, fun li hli => ?_, ⟨fun b hb => ?_, fun li hl => by rw [w25]; exact z1.2 li hl⟩⟩
  · have hi' : i < cn 6 + 1 := hi
    show va_up (r 6) (cn 6) (some (ad' (cn 6 + 100))) i = _
    by_cases e : i = cn 6
    · rw [e, va_same]
    · rw [va_ne e, hA (i + 100) (by omega) (by omega)]
      exact r6 i (by omega)
  · have hi' : i < cn 12 := hi
    rw [hA (i + 300) (by omega) (by omega)]
    rw [va_ne (show (12 : Nat) ≠ 6 by decide), nwR, va_ne (show (12 : Nat) ≠ cn 6 + 100 by omega)]
    exact r12 i hi'
  · have hi' : i < cn 14 := hi
    rw [hA (i + 400) (by omega) (by omega)]
    rw [va_ne (show (14 : Nat) ≠ 6 by decide), nwR, va_ne (show (14 : Nat) ≠ cn 6 + 100 by omega)]
    exact r14 i hi'
  · rw [w0]
    rw [nwU, va_ne (show (0 : Nat) ≠ cn 6 + 100 by omega)]
    exact b6
  · rw [nwU, va_ne (show (16 : Nat) ≠ cn 6 + 100 by omega)]
    exact b7
  · have hf' : f < cn 3 := hf
    rw [w2, va_ne (show (1 : Nat) ≠ cn 6 + 200 by omega), va_ne (show (3 : Nat) ≠ cn 6 + 200 by omega), nwU, va_ne (show (2 : Nat) ≠ cn 6 + 100 by omega)]
    exact c1 f hf'
  · have hf' : f < cn 4 + E := hf
    show ∃ b, b < cn 6 + 1 ∧ v' 4 f = nI b
    rw [w4]
    rcases Nat.lt_or_ge f (cn 4) with q | q
    · obtain ⟨b, hb, e⟩ := c2 f q
      exact ⟨b, by omega, (k4a f q).trans e⟩
    · exact ⟨cn 6, by omega, k4b f q hf'⟩
  · have hf' : cn 4 + E ≤ f := hf
    have hf2' : f < cn 3 := hf2
    rw [w4, k4c f hf' hf2']
    exact c3 f (by omega) hf2'
  · have hb' : b < cn 6 + 1 := hb
    by_cases e : b = cn 6
    · subst e
      refine ⟨⟨⟨?_, ?_, ?_, ?_⟩, ?_, ?_, ?_, ?_, ?_⟩, ?_⟩
      · rw [w6, pk_us, nwU, va_same]
        rfl
      · rw [w8, nwU, va_same]
        exact (z1.1 (cn 6) (Nat.le_refl _)).1
      · rw [w9, nwU, va_same]
        exact (z1.1 (cn 6) (Nat.le_refl _)).2
      · rw [w10, pk_us, nwU, va_same]
        rfl
      · rw [nwX, va_same]
        exact Or.inl (congrArg dc (if_pos rfl : vf_upd (z 7) (cn 6) 4626322717216342016 (cn 6) = 4626322717216342016).symm)
      · intro k hk
        rw [va_same]
        exact gN k hk
      · rw [w11, pk_us, nwU, va_same]
        exact Or.inl ⟨rfl, by decide⟩
      · rw [nwU, va_same]
        exact Or.inl rfl
      · rw [nwU, va_same]
        intro q
        exact absurd (show nI 0 = nI 1 from q) (by decide)
      · refine Or.inl ⟨hleaf, ?_, ?_⟩
        · rw [va_ne (show cn 6 + 100 ≠ 6 by omega), nwR, va_same]
          rfl
        · rw [va_ne (show cn 6 + 100 ≠ 6 by omega), nwR, va_same]
          rfl
    · have hb2 : b < cn 6 := by omega
      obtain ⟨⟨⟨i1, i2, i3, i4⟩, i5, i6, i7, i8, i9⟩, p9⟩ := d1 b hb2
      have un : nwU u (cn 6 + 100) (b + 100) = u (b + 100) := va_ne (by omega)
      refine ⟨⟨⟨?_, ?_, ?_, ?_⟩, ?_, ?_, ?_, ?_, ?_⟩, ?_⟩
      · rw [w6, pk_un e, un]
        exact i1
      · rw [w8, un]
        exact i2
      · rw [w9, un]
        exact i3
      · rw [w10, pk_un e, un]
        exact i4
      · rw [nwX, va_ne (show b + 100 ≠ cn 6 + 100 by omega)]
        exact (show eqd (x (b + 100) 1) (vf_upd (z 7) (cn 6) 4626322717216342016 b) by rw [show vf_upd (z 7) (cn 6) 4626322717216342016 b = z 7 b from if_neg e]; exact i5)
      · intro k hk
        rw [va_ne (show b + 200 ≠ cn 6 + 200 by omega), gm b hb2]
        exact i6 k hk
      · rw [w11, pk_un e, un]
        exact i7
      · rw [un]
        exact i8
      · rw [un]
        exact i9
      · unfold RelP at p9 ⊢
        rw [n12 b hb2, n13 b hb2, va_ne (show b + 100 ≠ 6 by omega), nwR, va_ne (show b + 100 ≠ cn 6 + 100 by omega)]
        rcases p9 with q | ⟨p1, p2, q1, q2, q3, q4, q5, q6, q7⟩
        · exact Or.inl q
        · exact Or.inr ⟨p1, p2, q1, q2, q3, q4, q5, by rw [hA (p1 + 100) (by omega) (by omega)]; exact q6, by rw [hA (p2 + 100) (by omega) (by omega)]; exact q7⟩
  · have ha' : a < cn 6 + 1 := ha
    have hb' : b < cn 6 + 1 := hb
    have hl : ∀ t, t < 12 → (hasN (v' 12) (v' 13) (cn 6) t ↔ t = cn 6) := fun t ht => has_leaf hc ht hleaf
    have hle : ∀ b, b < cn 6 → ∀ t, t < 12 → hasN (v' 12) (v' 13) b t → t ≤ b := fun b hb t ht q => has_le (v := v) ht b b (Nat.le_refl b) (by omega) (fun b hb => hP b (by omega)) ((old_has n12 n13 hb _).mp q)
    rintro ⟨q1, q2⟩
    by_cases ea : a = cn 6
    · rw [ea] at q1
      have q3 := (hl t ht).mp q1
      have := hle b (by omega) t ht q2
      omega
    · by_cases eb : b = cn 6
      · rw [eb] at q2
        have q3 := (hl t ht).mp q2
        have := hle a (by omega) t ht q1
        omega
      · rw [nwU, va_ne (show a + 100 ≠ cn 6 + 100 by omega)] at h2
        rw [nwU, va_ne (show b + 100 ≠ cn 6 + 100 by omega)] at h3
        exact e1 a b (by omega) (by omega) hab h2 h3 t ht ⟨(old_has n12 n13 (by omega) _).mp q1, (old_has n12 n13 (by omega) _).mp q2⟩
  · have hi' : i < cn 9 := hi
    rw [nwX, va_ne (show (8 : Nat) ≠ cn 6 + 100 by omega), va_ne (show (9 : Nat) ≠ cn 6 + 100 by omega)]
    exact f1 i hi'
  · have hs' : s < cn 12 := hs
    rw [w19, w20, nwU, va_ne (show s + 300 ≠ cn 6 + 100 by omega)]
    exact g1 s hs'
  · have hli' : li < cn 14 := hli
    obtain ⟨i1, i2, ct, i3, i4, i5, i6, i7, i8⟩ := l1 li hli'
    have h24 : ∀ i, i < ct → v' 24 (8 * li + i) = v 24 (8 * li + i) := fun i _ => by rw [w24]
    unfold RelL
    rw [va_ne (show li + 400 ≠ cn 6 + 200 by omega), w24, w25, nwU, va_ne (show li + 400 ≠ cn 6 + 100 by omega)]
    refine ⟨i1, i2, ct, i3, i4, i5, fun i hi => ?_, ?_, ?_⟩
    · obtain ⟨b, hb, e⟩ := i6 i hi
      exact ⟨b, (by show b < cn 6 + 1; omega), e⟩
    · rw [i7]
      exact (old_load a3 gm h24 i6).symm
    · rw [i8]
      exact (old_load a3 gm h24 i6).symm
  · have hb' : cn 6 + 1 ≤ b := hb
    rw [w8, w9]
    exact z1.1 b (by omega)
