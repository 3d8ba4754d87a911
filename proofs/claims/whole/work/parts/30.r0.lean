/-! THE EMPTY OBJECTS ARE RELATED -/
theorem rel_0 (ad : Nat → Nat) : Rel ad c0n c0u c0w c0x c0r c0n m0u c0w c0x := by
  have z : ∀ k, c0n k = 0 := fun _ => rfl
  refine ⟨⟨⟨by rw [z]; omega, by rw [z, z]; omega, by rw [z]; omega, by rw [z]; omega, by rw [z]; omega, by rw [z]; omega⟩, ⟨rfl, rfl, rfl⟩, fun i hi => absurd hi (Nat.not_lt_zero i), fun i hi => absurd hi (Nat.not_lt_zero i), fun i hi => absurd hi (Nat.not_lt_zero i)⟩, ⟨⟨rfl, rfl, rfl, rfl, rfl⟩, rfl, rfl, Nat.zero_le _⟩, ⟨fun f hf => absurd hf (Nat.not_lt_zero f), fun f hf => absurd hf (Nat.not_lt_zero f), fun f _ hf => absurd hf (Nat.not_lt_zero f), fun f g _ hg => absurd hg (Nat.not_lt_zero g)⟩, fun b hb => absurd hb (Nat.not_lt_zero b), fun a b ha => absurd ha (Nat.not_lt_zero a), fun i hi => absurd hi (Nat.not_lt_zero i), fun i hi => absurd hi (Nat.not_lt_zero i), fun i hi => absurd hi (Nat.not_lt_zero i), ⟨fun b _ => ⟨rfl, rfl⟩, fun li _ => rfl⟩⟩
/-- gramsM looks at four rows and a counter alone -/
theorem gramsM_rows {dn dn' : Nat → Nat} {v v' : Nat → Nat → Int32} {y y' : Nat → Nat → Int64} (h0 : dn' 0 = dn 0) (h2 : v' 2 = v 2) (h4 : v' 4 = v 4) (h12 : v' 12 = v 12) (h13 : v' 13 = v 13) (h3 : y' 3 = y 3) (j : Nat) (k : Int32) : gramsM dn' v' y' j k = gramsM dn v y j k := by
  unfold gramsM
  rw [h0, h2, h4, h12, h13, h3]
theorem loadM_rows {dn dn' : Nat → Nat} {v v' : Nat → Nat → Int32} {y y' : Nat → Nat → Int64} (h0 : dn' 0 = dn 0) (h2 : v' 2 = v 2) (h4 : v' 4 = v 4) (h12 : v' 12 = v 12) (h13 : v' 13 = v 13) (h3 : y' 3 = y 3) {li mm ct : Nat} (h24 : ∀ i, i < ct → v' 24 (8 * li + i) = v 24 (8 * li + i)) : loadM dn' v' y' li mm ct = loadM dn v y li mm ct := by
  unfold loadM
  refine sumL_congr ct (fun i hi => ?_)
  unfold weightM
  rw [h24 i hi]
  simp only [gramsM_rows h0 h2 h4 h12 h13 h3]
/-- Rel looks at the class's ints by rows: only the hold lies in row 0 -/
theorem rel_row0 {ad cn : Nat → Nat} {u u' : Nat → Nat → Int32} {w : Nat → Nat → Int64} {x : Nat → Nat → UInt64} {r : Nat → Nat → Option Nat} {dn : Nat → Nat} {v v' : Nat → Nat → Int32} {y : Nat → Nat → Int64} {z : Nat → Nat → UInt64} (h : Rel ad cn u w x r dn v y z) (hu : ∀ c, c ≠ 0 → c ≠ 16 → c ≠ 17 → u' c = u c) (hv : ∀ c, c ≠ 0 → v' c = v c) (hh : v' 0 17 = u' 0 10) (h16 : u' 16 1 = nI 0) : Rel ad cn u' w x r dn v' y z := by
  obtain ⟨a1, ⟨b1, b2, b3, b4⟩, c1, d1, e1, f1, g1, l1, z1⟩ := h
  have gm := gramsM_rows (dn := dn) (dn' := dn) (v := v) (v' := v') (y := y) (y' := y) rfl (hv 2 (by decide)) (hv 4 (by decide)) (hv 12 (by decide)) (hv 13 (by decide)) rfl
  refine ⟨a1, ⟨b1, hh, h16, b4⟩, ?_, fun b hb => ⟨?_, ?_⟩, ?_, f1, ?_, fun li hli => ?_, ?_⟩
  · unfold RelF
    rw [hu 2 (by decide) (by decide) (by decide), hv 2 (by decide), hv 4 (by decide)]
    exact c1
  · have h9 := (d1 b hb).1
    unfold RelB at h9 ⊢
    simp only [gm]
    rw [hu (b + 100) (by omega) (by omega) (by omega), hv 6 (by decide), hv 8 (by decide), hv 9 (by decide), hv 10 (by decide), hv 11 (by decide)]
    exact h9
  · have h9 := (d1 b hb).2
    unfold RelP at h9 ⊢
    rw [hv 12 (by decide), hv 13 (by decide)]
    exact h9
  · intro a b ha hb hab
    rw [hu (a + 100) (by omega) (by omega) (by omega), hu (b + 100) (by omega) (by omega) (by omega), hv 12 (by decide), hv 13 (by decide)]
    exact e1 a b ha hb hab
  · intro s hs
    rw [hu (s + 300) (by omega) (by omega) (by omega), hv 19 (by decide), hv 20 (by decide)]
    exact g1 s hs
  · have h9 := l1 li hli
    unfold RelL at h9 ⊢
    rw [hu (li + 400) (by omega) (by omega) (by omega), hv 25 (by decide), hv 24 (by decide)]
    obtain ⟨i1, i2, ct, i3, i4, i5, i6, i7, i8⟩ := h9
    refine ⟨i1, i2, ct, i3, i4, i5, i6, ?_, ?_⟩
    · rw [i7]
      exact (loadM_rows rfl (hv 2 (by decide)) (hv 4 (by decide)) (hv 12 (by decide)) (hv 13 (by decide)) rfl (fun i hi => by rw [hv 24 (by decide)])).symm
    · rw [i8]
      exact (loadM_rows rfl (hv 2 (by decide)) (hv 4 (by decide)) (hv 12 (by decide)) (hv 13 (by decide)) rfl (fun i hi => by rw [hv 24 (by decide)])).symm
  · unfold RelZ
    rw [hv 8 (by decide), hv 9 (by decide), hv 25 (by decide)]
    exact z1
theorem rel_cn16 {ad cn : Nat → Nat} {u : Nat → Nat → Int32} {w : Nat → Nat → Int64} {x : Nat → Nat → UInt64} {r : Nat → Nat → Option Nat} {dn : Nat → Nat} {v : Nat → Nat → Int32} {y : Nat → Nat → Int64} {z : Nat → Nat → UInt64} {L : Nat} (h : Rel ad cn u w x r dn v y z) (hL : L ≤ 16) : Rel ad (va_up cn 16 L) u w x r dn v y z := by
  obtain ⟨a1, ⟨b1, b2, b3, b4⟩, h9⟩ := h
  exact ⟨a1, ⟨b1, b2, b3, hL⟩, h9⟩
/-- hold -/
theorem rel_hold {ad cn : Nat → Nat} {u : Nat → Nat → Int32} {w : Nat → Nat → Int64} {x : Nat → Nat → UInt64} {r : Nat → Nat → Option Nat} {dn : Nat → Nat} {v : Nat → Nat → Int32} {y : Nat → Nat → Int64} {z : Nat → Nat → UInt64} {k : Int32} (h : Rel ad cn u w x r dn v y z) : Rel ad cn (va_up u 0 (upd (u 0) 10 k)) w x r dn (va_up v 0 (upd (v 0) 17 k)) y z :=
  rel_row0 h (fun c hc _ _ => va_ne hc) (fun c hc => va_ne hc) (by rw [va_same, va_same, pk_us, pk_us]) ((congrFun (va_ne (by decide)) 1).trans h.2.1.2.2.1)
/-- label: only the text and what the reference looked at change -/
theorem rel_label {ad cn : Nat → Nat} {u : Nat → Nat → Int32} {w : Nat → Nat → Int64} {x : Nat → Nat → UInt64} {r : Nat → Nat → Option Nat} {dn : Nat → Nat} {v v' : Nat → Nat → Int32} {y : Nat → Nat → Int64} {z : Nat → Nat → UInt64} {L : Nat} {m g : Nat → Int32} (h : Rel ad cn u w x r dn v y z) (hL : L ≤ 16) (hm : m 1 = nI 0) (hv : ∀ c, c ≠ 0 → v' c = v c) (h17 : v' 0 17 = v 0 17) : Rel ad (va_up cn 16 L) (va_up (va_up u 16 m) 17 g) w x r dn v' y z :=
  rel_cn16 (rel_row0 h (fun c h0 h1 h2 => (va_ne h2).trans (va_ne h1)) hv (by rw [h17]; exact h.2.1.2.1) hm) hL
/-- row -/
theorem rel_row {ad cn : Nat → Nat} {u : Nat → Nat → Int32} {w : Nat → Nat → Int64} {x : Nat → Nat → UInt64} {r : Nat → Nat → Option Nat} {dn : Nat → Nat} {v : Nat → Nat → Int32} {y : Nat → Nat → Int64} {z : Nat → Nat → UInt64} {d d' t t' : UInt64} (h : Rel ad cn u w x r dn v y z) (hc : cn 9 < 6) (hd : eqd d d') (ht : eqd t t') : Rel ad (va_up cn 9 (cn 9 + 1)) u w (va_up (va_up x 8 (vf_upd (x 8) (cn 9) d)) 9 (vf_upd (x 9) (cn 9) t)) r (va_up dn 14 (dn 14 + 1)) v y (va_up (va_up z 15 (vf_upd (z 15) (dn 14) d')) 16 (vf_upd (z 16) (dn 14) t')) := by
  obtain ⟨⟨⟨a1, a2, a3, a4, a5, a6⟩, a7⟩, ⟨⟨b1, b2, b3, b4, b5⟩, b6⟩, c1, d1, e1, f1, h9⟩ := h
  refine ⟨⟨⟨a1, a2, a3, by show cn 9 + 1 ≤ 6; omega, a5, a6⟩, a7⟩, ⟨⟨b1, b2, by show dn 14 + 1 = cn 9 + 1; omega, b4, b5⟩, b6⟩, c1, fun b hb => ⟨?_, (d1 b hb).2⟩, e1, fun i hi => ?_, h9⟩
  · have h8 := (d1 b hb).1
    unfold RelB at h8 ⊢
    rw [va_ne (show b + 100 ≠ 9 by omega), va_ne (show b + 100 ≠ 8 by omega), va_ne (show (7 : Nat) ≠ 16 by decide), va_ne (show (7 : Nat) ≠ 15 by decide)]
    exact h8
  · have hi' : i < cn 9 + 1 := hi
    show eqd (vf_upd (x 8) (cn 9) d i) (vf_upd (z 15) (dn 14) d' i) ∧ eqd (vf_upd (x 9) (cn 9) t i) (vf_upd (z 16) (dn 14) t' i)
    rw [b3]
    unfold vf_upd
    by_cases e : i = cn 9
    · rw [if_pos e, if_pos e, if_pos e, if_pos e]
      exact ⟨hd, ht⟩
    · rw [if_neg e, if_neg e, if_neg e, if_neg e]
      exact f1 i (by omega)
