/-! REBALE keeps the relation -/
theorem reb_ans {cn : Nat → Nat} {u : Nat → Nat → Int32} {dn : Nat → Nat} {v : Nat → Nat → Int32} {a b : Nat} (h5 : dn 5 = cn 6) (h6 : cn 6 ≤ 12) (ha : v 6 a = u (a + 100) 4) (hb : v 6 b = u (b + 100) 4) : okRebM dn v a b ↔ okRebC cn u a b := by
  unfold okRebM okRebC
  rw [ha, hb, h5]
  constructor
  · rintro ⟨q1, q2, q3, q4⟩
    exact ⟨q1, by omega, q2, q3⟩
  · rintro ⟨q1, q2, q3, q4⟩
    exact ⟨q1, q3, q4, by omega⟩
theorem rel_rebale {ad ad' cn : Nat → Nat} {u : Nat → Nat → Int32} {w : Nat → Nat → Int64} {x : Nat → Nat → UInt64} {r : Nat → Nat → Option Nat} {dn : Nat → Nat} {v : Nat → Nat → Int32} {y : Nat → Nat → Int64} {z : Nat → Nat → UInt64} {a b : Nat} (hR : Rel ad cn u w x r dn v y z) (ha : a < cn 6) (hb : b < cn 6) (hok : okRebC cn u a b) (hA : ∀ k, k ≠ cn 6 + 100 → k ≠ cn 6 + 200 → ad' k = ad k) : Rel ad' (va_up (nwC cn) 6 (cn 6 + 1)) (va_up (va_up (nwU u (cn 6 + 100)) (a + 100) (upd ((nwU u (cn 6 + 100)) (a + 100)) 4 (nI 3))) (b + 100) (upd ((nwU u (cn 6 + 100)) (b + 100)) 4 (nI 3))) (va_up w (cn 6 + 200) (mkG (fun _ => 0) (w (a + 200)) (w (b + 200)) 4)) (va_up (nwX x (cn 6 + 100)) (cn 6 + 100) (fun _ => if dGe ((nwX x (cn 6 + 100)) (a + 100) 1) ((nwX x (cn 6 + 100)) (b + 100) 1) = true then (nwX x (cn 6 + 100)) (a + 100) 1 else (nwX x (cn 6 + 100)) (b + 100) 1)) (va_up (va_up (nwR r (cn 6 + 100)) (cn 6 + 100) (rPair (ad' (a + 100)) (ad' (b + 100)))) 6 (va_up (va_up (nwR r (cn 6 + 100)) (cn 6 + 100) (rPair (ad' (a + 100)) (ad' (b + 100))) 6) (cn 6) (some (ad' (cn 6 + 100))))) (va_up dn 5 (dn 5 + 1)) (va_up (va_up (va_up (va_up (va_up v 6 (upd (upd (upd (v 6) (dn 5) (nI 0)) a (nI 3)) b (nI 3))) 12 (upd (v 12) (dn 5) (nI a))) 13 (upd (v 13) (dn 5) (nI b))) 10 (upd (v 10) (dn 5) (-1))) 11 (upd (v 11) (dn 5) (-1))) y (va_up z 7 (vf_upd (z 7) (dn 5) (if dGt (z 7 a) (z 7 b) = true then z 7 a else z 7 b))) := by
  obtain ⟨⟨⟨a1, a2, a3, a4, a5, a6⟩, ⟨a7, a8, a9⟩, r6, r12, r14⟩, ⟨⟨b1, b2, b3, b4, b5⟩, b6, b7, b8⟩, ⟨c1, c2, c3, c4⟩, d1, e1, f1, g1, l1, z1⟩ := hR
  obtain ⟨hab, hc, sa, sb⟩ := hok
  rw [b2]
  have hP : ∀ b, b < cn 6 → oldP v b := fun b hb => oldP_of (d1 b hb).2
  generalize hv' : va_up (va_up (va_up (va_up (va_up v 6 (upd (upd (upd (v 6) (cn 6) (nI 0)) a (nI 3)) b (nI 3))) 12 (upd (v 12) (cn 6) (nI a))) 13 (upd (v 13) (cn 6) (nI b))) 10 (upd (v 10) (cn 6) (-1))) 11 (upd (v 11) (cn 6) (-1)) = v'
  have wo : ∀ c, c ≠ 6 → c ≠ 12 → c ≠ 13 → c ≠ 10 → c ≠ 11 → v' c = v c := fun c h1 h2 h3 h4 h5 => by rw [← hv', va_ne h5, va_ne h4, va_ne h3, va_ne h2, va_ne h1]
  have w4 : v' 4 = v 4 := wo 4 (by decide) (by decide) (by decide) (by decide) (by decide)
  have w2 : v' 2 = v 2 := wo 2 (by decide) (by decide) (by decide) (by decide) (by decide)
  have w8 : v' 8 = v 8 := wo 8 (by decide) (by decide) (by decide) (by decide) (by decide)
  have w9 : v' 9 = v 9 := wo 9 (by decide) (by decide) (by decide) (by decide) (by decide)
  have w0 : v' 0 = v 0 := wo 0 (by decide) (by decide) (by decide) (by decide) (by decide)
  have w19 : v' 19 = v 19 := wo 19 (by decide) (by decide) (by decide) (by decide) (by decide)
  have w20 : v' 20 = v 20 := wo 20 (by decide) (by decide) (by decide) (by decide) (by decide)
  have w24 : v' 24 = v 24 := wo 24 (by decide) (by decide) (by decide) (by decide) (by decide)
  have w25 : v' 25 = v 25 := wo 25 (by decide) (by decide) (by decide) (by decide) (by decide)
  have w6 : v' 6 = upd (upd (upd (v 6) (cn 6) (nI 0)) a (nI 3)) b (nI 3) := by rw [← hv']; rfl
  have w10 : v' 10 = upd (v 10) (cn 6) (-1) := by rw [← hv']; rfl
  have w11 : v' 11 = upd (v 11) (cn 6) (-1) := by rw [← hv']; rfl
  have w12 : v' 12 = upd (v 12) (cn 6) (nI a) := by rw [← hv']; rfl
  have w13 : v' 13 = upd (v 13) (cn 6) (nI b) := by rw [← hv']; rfl
  clear hv' wo
  generalize hu' : va_up (va_up (nwU u (cn 6 + 100)) (a + 100) (upd ((nwU u (cn 6 + 100)) (a + 100)) 4 (nI 3))) (b + 100) (upd ((nwU u (cn 6 + 100)) (b + 100)) 4 (nI 3)) = u'
  have ua : u' (a + 100) = upd (u (a + 100)) 4 (nI 3) := by rw [← hu', va_ne (show a + 100 ≠ b + 100 by omega), va_same, nwU, va_ne (show a + 100 ≠ cn 6 + 100 by omega)]
  have ub : u' (b + 100) = upd (u (b + 100)) 4 (nI 3) := by rw [← hu', va_same, nwU, va_ne (show b + 100 ≠ cn 6 + 100 by omega)]
  have uN : u' (cn 6 + 100) = nU := by rw [← hu', va_ne (show cn 6 + 100 ≠ b + 100 by omega), va_ne (show cn 6 + 100 ≠ a + 100 by omega), nwU, va_same]
  have uo : ∀ c, c ≠ a + 100 → c ≠ b + 100 → c ≠ cn 6 + 100 → u' c = u c := fun c h1 h2 h3 => by rw [← hu', va_ne h2, va_ne h1, nwU, va_ne h3]
  clear hu'
  have uf : ∀ c, c < cn 6 → ∀ q, q ≠ 4 → u' (c + 100) q = u (c + 100) q := by
    intro c hc2 q hq
    by_cases e : c = a
    · rw [e, ua, pk_un hq]
    · by_cases e2 : c = b
      · rw [e2, ub, pk_un hq]
      · rw [uo (c + 100) (by omega) (by omega) (by omega)]
  have n12 : ∀ b, b < cn 6 → v' 12 b = v 12 b := fun b hb => by rw [w12]; exact pk_un (by omega)
  have n13 : ∀ b, b < cn 6 → v' 13 b = v 13 b := fun b hb => by rw [w13]; exact pk_un (by omega)
  have gm : ∀ j, j < cn 6 → ∀ k, gramsM (va_up dn 5 (cn 6 + 1)) v' y j k = gramsM dn v y j k := fun j hj k => old_grams (dn := dn) (dn' := va_up dn 5 (cn 6 + 1)) rfl hc hP n12 n13 w2 (fun f hf => Or.inl (by rw [w4])) hj k
  have hle : ∀ b, b < cn 6 → ∀ t, t < 12 → hasN (v' 12) (v' 13) b t → t ≤ b := fun b hb t ht q => has_le (v := v) ht b b (Nat.le_refl b) (by omega) (fun b hb => hP b (by omega)) ((old_has n12 n13 hb _).mp q)
  have nsa : ¬ u (a + 100) 4 = nI 3 := by rw [sa]; decide
  have nsb : ¬ u (b + 100) 4 = nI 3 := by rw [sb]; decide
  have eN1 : v' 12 (cn 6) = nI a := by rw [w12, pk_us]
  have eN2 : v' 13 (cn 6) = nI b := by rw [w13, pk_us]
  have gN : ∀ k, k < 4 → mkG (fun _ => 0) (w (a + 200)) (w (b + 200)) 4 k = gramsM (va_up dn 5 (cn 6 + 1)) v' y (cn 6) (nI k) := by
    intro k hk
    rw [gramsM_node hc ha hb eN1 eN2 (fun f hf h0 => by
      have hf' : f < dn 0 := hf
      rw [w4] at h0 ⊢
      rcases Nat.lt_or_ge f (cn 4) with q | q
      · obtain ⟨t, ht, et⟩ := c2 f q
        exact ⟨t, by omega, by omega, et⟩
      · exact absurd (c3 f q (by omega)) h0) (fun t ht q => e1 a b ha hb hab nsa nsb t ht ⟨(old_has n12 n13 ha _).mp q.1, (old_has n12 n13 hb _).mp q.2⟩)]
    rw [gm a ha, gm b hb, ← (d1 a ha).1.2.2.1 k hk, ← (d1 b hb).1.2.2.1 k hk]
    exact (if_pos hk).trans (Int64.zero_add _)
  have hnode : ∀ t, t < 12 → (hasN (v' 12) (v' 13) (cn 6) t ↔ t = cn 6 ∨ hasN (v' 12) (v' 13) a t ∨ hasN (v' 12) (v' 13) b t) := fun t ht => has_node hc ht ha hb eN1 eN2
  have hroot : ∀ c, c < cn 6 → ¬ u' (c + 100) 4 = nI 3 → c ≠ a ∧ c ≠ b ∧ ¬ u (c + 100) 4 = nI 3 := by
    intro c hc2 h3
    refine ⟨fun e => h3 (by rw [e, ua, pk_us]), fun e => h3 (by rw [e, ub, pk_us]), fun q => h3 ?_⟩
    by_cases e : c = a
    · rw [e, ua, pk_us]
    · by_cases e2 : c = b
      · rw [e2, ub, pk_us]
      · rw [uo (c + 100) (by omega) (by omega) (by omega)]
        exact q
  have hsep : ∀ c, c < cn 6 → ¬ u' (c + 100) 4 = nI 3 → ∀ t, t < 12 → hasN (v' 12) (v' 13) (cn 6) t → hasN (v' 12) (v' 13) c t → False := by
    intro c hc2 h3 t ht q1 q2
    obtain ⟨p1, p2, p3⟩ := hroot c hc2 h3
    have q4 := (old_has n12 n13 hc2 _).mp q2
    rcases (hnode t ht).mp q1 with q | q | q
    · have := hle c hc2 t ht q2
      omega
    · exact e1 a c ha hc2 (fun e => p1 e.symm) nsa p3 t ht ⟨(old_has n12 n13 ha _).mp q, q4⟩
    · exact e1 b c hb hc2 (fun e => p2 e.symm) nsb p3 t ht ⟨(old_has n12 n13 hb _).mp q, q4⟩
  refine ⟨⟨⟨a1, a2, by show cn 6 + 1 ≤ 12; omega, a4, a5, a6⟩, ⟨rfl, a8, a9⟩, fun i hi => ?_, fun i hi => ?_, fun i hi => ?_⟩, ⟨⟨b1, rfl, b3, b4, b5⟩, ?_, ?_, b8⟩, ⟨fun f hf => ?_, fun f hf => ?_, fun f hf hf2 => ?_, ?_⟩, fun c hc2 => ?_, fun p q hp hq hpq h2 h3 t ht => ?_, fun i hi => ?_, fun s hs => ?_, fun li hli => ?_, ⟨fun c hc2 => ?_, fun li hl => by rw [w25]; exact z1.2 li hl⟩⟩
  · have hi' : i < cn 6 + 1 := hi
    show va_up (va_up (nwR r (cn 6 + 100)) (cn 6 + 100) (rPair (ad' (a + 100)) (ad' (b + 100))) 6) (cn 6) (some (ad' (cn 6 + 100))) i = _
    by_cases e : i = cn 6
    · rw [e, va_same]
    · rw [va_ne e, hA (i + 100) (by omega) (by omega), va_ne (show 6 ≠ cn 6 + 100 by omega), nwR, va_ne (show 6 ≠ cn 6 + 100 by omega)]
      exact r6 i (by omega)
  · have hi' : i < cn 12 := hi
    rw [hA (i + 300) (by omega) (by omega), va_ne (show (12 : Nat) ≠ 6 by decide), va_ne (show (12 : Nat) ≠ cn 6 + 100 by omega), nwR, va_ne (show (12 : Nat) ≠ cn 6 + 100 by omega)]
    exact r12 i hi'
  · have hi' : i < cn 14 := hi
    rw [hA (i + 400) (by omega) (by omega), va_ne (show (14 : Nat) ≠ 6 by decide), va_ne (show (14 : Nat) ≠ cn 6 + 100 by omega), nwR, va_ne (show (14 : Nat) ≠ cn 6 + 100 by omega)]
    exact r14 i hi'
  · rw [w0, uo 0 (by omega) (by omega) (by omega)]
    exact b6
  · rw [uo 16 (by omega) (by omega) (by omega)]
    exact b7
  · have hf' : f < cn 3 := hf
    rw [w2, va_ne (show (1 : Nat) ≠ cn 6 + 200 by omega), va_ne (show (3 : Nat) ≠ cn 6 + 200 by omega), uo 2 (by omega) (by omega) (by omega)]
    exact c1 f hf'
  · have hf' : f < cn 4 := hf
    show ∃ c, c < cn 6 + 1 ∧ v' 4 f = nI c
    rw [w4]
    obtain ⟨c, hc2, e⟩ := c2 f hf'
    exact ⟨c, by omega, e⟩
  · rw [w4]
    exact c3 f hf hf2
  · intro f g hfg hg
    rw [va_ne (show (1 : Nat) ≠ cn 6 + 200 by omega)]
    exact c4 f g hfg hg
  · have hc2' : c < cn 6 + 1 := hc2
    by_cases e : c = cn 6
    · subst e
      refine ⟨⟨⟨?_, ?_, ?_, ?_⟩, ?_, ?_, ?_, ?_, ?_⟩, ?_⟩
      · rw [w6, pk_un (by omega), pk_un (by omega), pk_us, uN]
        rfl
      · rw [w8, uN]
        exact (z1.1 (cn 6) (Nat.le_refl _)).1
      · rw [w9, uN]
        exact (z1.1 (cn 6) (Nat.le_refl _)).2
      · rw [w10, pk_us, uN]
        rfl
      · rw [va_same, nwX, va_ne (show a + 100 ≠ cn 6 + 100 by omega), va_ne (show b + 100 ≠ cn 6 + 100 by omega)]
        have e9 : va_up z 7 (vf_upd (z 7) (cn 6) (if dGt (z 7 a) (z 7 b) = true then z 7 a else z 7 b)) 7 (cn 6) = (if dGt (z 7 a) (z 7 b) = true then z 7 a else z 7 b) := if_pos rfl
        rw [e9]
        exact max_eqd (d1 a ha).1.2.1 (d1 b hb).1.2.1
      · intro k hk
        rw [va_same]
        exact gN k hk
      · rw [w11, pk_us, uN]
        exact Or.inl ⟨rfl, by decide⟩
      · rw [uN]
        exact Or.inl rfl
      · rw [uN]
        intro q
        exact absurd (show nI 0 = nI 1 from q) (by decide)
      · refine Or.inr ⟨a, b, ha, hb, hab, eN1, eN2, ?_, ?_⟩
        · rw [va_ne (show cn 6 + 100 ≠ 6 by omega), va_same]
          rfl
        · rw [va_ne (show cn 6 + 100 ≠ 6 by omega), va_same]
          rfl
    · have hb2 : c < cn 6 := by omega
      obtain ⟨⟨⟨i1, i2, i3, i4⟩, i5, i6, i7, i8, i9⟩, p9⟩ := d1 c hb2
      have st : v' 6 c = u' (c + 100) 4 ∧ (u' (c + 100) 4 = u (c + 100) 4 ∨ u' (c + 100) 4 = nI 3) := by
        by_cases ea : c = a
        · rw [ea, w6, ua, pk_us, pk_un hab, pk_us]
          exact ⟨rfl, Or.inr rfl⟩
        · by_cases eb : c = b
          · rw [eb, w6, ub, pk_us, pk_us]
            exact ⟨rfl, Or.inr rfl⟩
          · rw [w6, pk_un eb, pk_un ea, pk_un e, uo (c + 100) (by omega) (by omega) (by omega)]
            exact ⟨i1, Or.inl rfl⟩
      refine ⟨⟨⟨st.1, ?_, ?_, ?_⟩, ?_, ?_, ?_, ?_, ?_⟩, ?_⟩
      · rw [w8, uf c hb2 3 (by decide)]
        exact i2
      · rw [w9, uf c hb2 2 (by decide)]
        exact i3
      · rw [w10, pk_un e, uf c hb2 5 (by decide)]
        exact i4
      · rw [va_ne (show c + 100 ≠ cn 6 + 100 by omega), nwX, va_ne (show c + 100 ≠ cn 6 + 100 by omega)]
        have e9 : va_up z 7 (vf_upd (z 7) (cn 6) (if dGt (z 7 a) (z 7 b) = true then z 7 a else z 7 b)) 7 c = z 7 c := if_neg e
        rw [e9]
        exact i5
      · intro k hk
        rw [va_ne (show c + 200 ≠ cn 6 + 200 by omega), gm c hb2]
        exact i6 k hk
      · rw [w11, pk_un e, uf c hb2 6 (by decide)]
        exact i7
      · rcases st.2 with q | q
        · rw [q]
          exact i8
        · exact Or.inr (Or.inr (Or.inr q))
      · intro q9
        rcases st.2 with q | q
        · rw [q] at q9
          rw [uf c hb2 5 (by decide)]
          exact i9 q9
        · rw [q] at q9
          exact absurd q9 (by decide)
      · unfold RelP at p9 ⊢
        rw [n12 c hb2, n13 c hb2, va_ne (show c + 100 ≠ 6 by omega), va_ne (show c + 100 ≠ cn 6 + 100 by omega), nwR, va_ne (show c + 100 ≠ cn 6 + 100 by omega)]
        rcases p9 with q | ⟨p1, p2, q1, q2, q3, q4, q5, q6, q7⟩
        · exact Or.inl q
        · exact Or.inr ⟨p1, p2, q1, q2, q3, q4, q5, by rw [hA (p1 + 100) (by omega) (by omega)]; exact q6, by rw [hA (p2 + 100) (by omega) (by omega)]; exact q7⟩
  · have hp' : p < cn 6 + 1 := hp
    have hq' : q < cn 6 + 1 := hq
    rintro ⟨q1, q2⟩
    by_cases ea : p = cn 6
    · rw [ea] at q1
      exact hsep q (by omega) h3 t ht q1 q2
    · by_cases eb : q = cn 6
      · rw [eb] at q2
        exact hsep p (by omega) h2 t ht q2 q1
      · exact e1 p q (by omega) (by omega) hpq (hroot p (by omega) h2).2.2 (hroot q (by omega) h3).2.2 t ht ⟨(old_has n12 n13 (by omega) _).mp q1, (old_has n12 n13 (by omega) _).mp q2⟩
  · have hi' : i < cn 9 := hi
    rw [va_ne (show (8 : Nat) ≠ cn 6 + 100 by omega), va_ne (show (9 : Nat) ≠ cn 6 + 100 by omega), nwX, va_ne (show (8 : Nat) ≠ cn 6 + 100 by omega), va_ne (show (9 : Nat) ≠ cn 6 + 100 by omega)]
    exact f1 i hi'
  · have hs' : s < cn 12 := hs
    rw [w19, w20, uo (s + 300) (by omega) (by omega) (by omega)]
    exact g1 s hs'
  · have hli' : li < cn 14 := hli
    obtain ⟨i1, i2, ct, i3, i4, i5, i6, i7, i8⟩ := l1 li hli'
    have h24 : ∀ i, i < ct → v' 24 (8 * li + i) = v 24 (8 * li + i) := fun i _ => by rw [w24]
    unfold RelL
    rw [va_ne (show li + 400 ≠ cn 6 + 200 by omega), w24, w25, uo (li + 400) (by omega) (by omega) (by omega)]
    refine ⟨i1, i2, ct, i3, i4, i5, fun i hi => ?_, ?_, ?_⟩
    · obtain ⟨c, hc2, e⟩ := i6 i hi
      exact ⟨c, (by show c < cn 6 + 1; omega), e⟩
    · rw [i7]
      exact (old_load a3 gm h24 i6).symm
    · rw [i8]
      exact (old_load a3 gm h24 i6).symm
  · have hb' : cn 6 + 1 ≤ c := hc2
    rw [w8, w9]
    exact z1.1 c (by omega)
