/-! FEED keeps the relation -/
theorem gramsM_feed {dn : Nat → Nat} {v : Nat → Nat → Int32} {y : Nat → Nat → Int64} {k9 : Int32} {sc g : Int64} (j : Nat) (k : Int32) : gramsM (va_up dn 0 (dn 0 + 1)) (va_up (va_up v 2 (upd (v 2) (dn 0) k9)) 4 (upd (v 4) (dn 0) (-1))) (va_up (va_up y 1 (vp_updL (y 1) (dn 0) sc)) 3 (vp_updL (y 3) (dn 0) g)) j k = gramsM dn v y j k := by
  show sumL (fun f => if ¬ upd (v 4) (dn 0) (-1) f < 0 ∧ upd (v 2) (dn 0) k9 f = k ∧ hasI (v 12) (v 13) j (upd (v 4) (dn 0) (-1) f) then vp_updL (y 3) (dn 0) g f else 0) (dn 0) + (if ¬ upd (v 4) (dn 0) (-1) (dn 0) < 0 ∧ upd (v 2) (dn 0) k9 (dn 0) = k ∧ hasI (v 12) (v 13) j (upd (v 4) (dn 0) (-1) (dn 0)) then vp_updL (y 3) (dn 0) g (dn 0) else 0) = _
  rw [if_neg (fun q => q.1 (by rw [pk_us]; decide)), Int64.add_zero]
  unfold gramsM
  refine sumL_congr _ (fun f hf => ?_)
  have e : f ≠ dn 0 := by omega
  simp only [pk_un e, pk_uLn e]
theorem loadM_feed {dn : Nat → Nat} {v : Nat → Nat → Int32} {y : Nat → Nat → Int64} {k9 : Int32} {sc g : Int64} (li mm ct : Nat) : loadM (va_up dn 0 (dn 0 + 1)) (va_up (va_up v 2 (upd (v 2) (dn 0) k9)) 4 (upd (v 4) (dn 0) (-1))) (va_up (va_up y 1 (vp_updL (y 1) (dn 0) sc)) 3 (vp_updL (y 3) (dn 0) g)) li mm ct = loadM dn v y li mm ct := by
  unfold loadM
  refine sumL_congr ct (fun i hi => ?_)
  unfold weightM
  rw [va_ne (show (24 : Nat) ≠ 4 by decide), va_ne (show (24 : Nat) ≠ 2 by decide)]
  simp only [gramsM_feed]
theorem lN_of {g : Int64} (h : 1 ≤ g ∧ g ≤ 1000000) : ∃ m, m ≤ 1000000 ∧ g = lN m := by
  have h1 := Int64.le_iff_toInt_le.mp h.1
  have h2 := Int64.le_iff_toInt_le.mp h.2
  rw [show (1 : Int64).toInt = 1 by decide] at h1
  rw [show (1000000 : Int64).toInt = 1000000 by decide] at h2
  refine ⟨g.toInt.toNat, by omega, ?_⟩
  apply Int64.toInt_inj.mp
  rw [lN_toInt (by omega)]
  omega
theorem rel_feed {ad cn : Nat → Nat} {u : Nat → Nat → Int32} {w : Nat → Nat → Int64} {x : Nat → Nat → UInt64} {r : Nat → Nat → Option Nat} {dn : Nat → Nat} {v : Nat → Nat → Int32} {y : Nat → Nat → Int64} {z : Nat → Nat → UInt64} {k : Int32} {sc g : Int64} (h : Rel ad cn u w x r dn v y z) (hok : okFeedC cn w sc k g) : Rel ad (va_up cn 3 (cn 3 + 1)) (va_up u 2 (upd (u 2) (cn 3) k)) (va_up (va_up w 1 (vp_updL (w 1) (cn 3) sc)) 3 (vp_updL (w 3) (cn 3) g)) x r (va_up dn 0 (dn 0 + 1)) (va_up (va_up v 2 (upd (v 2) (dn 0) k)) 4 (upd (v 4) (dn 0) (-1))) (va_up (va_up y 1 (vp_updL (y 1) (dn 0) sc)) 3 (vp_updL (y 3) (dn 0) g)) z := by
  obtain ⟨⟨⟨a1, a2, a3, a4, a5, a6⟩, a7⟩, ⟨⟨b1, b2, b3, b4, b5⟩, b6⟩, ⟨c1, c2, c3, c4⟩, d1, e1, f1, g1, l1, z1⟩ := h
  obtain ⟨k1, k2, k3, k4, k5⟩ := hok
  refine ⟨⟨⟨by show cn 3 + 1 ≤ 200; omega, by show cn 4 ≤ cn 3 + 1; omega, a3, a4, a5, a6⟩, a7⟩, ⟨⟨by show dn 0 + 1 = cn 3 + 1; omega, b2, b3, b4, b5⟩, b6⟩, ⟨fun f hf => ?_, fun f hf => ?_, fun f hf hf2 => ?_, fun f q hfq hq => ?_⟩, fun b hb => ⟨?_, (d1 b hb).2⟩, ?_, f1, ?_, fun li hli => ?_, z1⟩
  · have hf' : f < cn 3 + 1 := hf
    show vp_updL (y 1) (dn 0) sc f = vp_updL (w 1) (cn 3) sc f ∧ upd (v 2) (dn 0) k f = upd (u 2) (cn 3) k f ∧ vp_updL (y 3) (dn 0) g f = vp_updL (w 3) (cn 3) g f ∧ okKind (upd (u 2) (cn 3) k f) ∧ ∃ m, m ≤ 1000000 ∧ vp_updL (w 3) (cn 3) g f = lN m
    rw [b1]
    by_cases e : f = cn 3
    · rw [e, pk_uLs, pk_uLs, pk_us, pk_us, pk_uLs, pk_uLs]
      exact ⟨rfl, rfl, rfl, k2, lN_of k4⟩
    · rw [pk_uLn e, pk_uLn e, pk_un e, pk_un e, pk_uLn e, pk_uLn e]
      exact c1 f (by omega)
  · have hf' : f < cn 4 := hf
    show ∃ b, b < cn 6 ∧ upd (v 4) (dn 0) (-1) f = nI b
    rw [pk_un (by omega)]
    exact c2 f hf'
  · have hf' : f < cn 3 + 1 := hf2
    show upd (v 4) (dn 0) (-1) f < 0
    by_cases e : f = dn 0
    · rw [e, pk_us]
      decide
    · rw [pk_un e]
      exact c3 f hf (by omega)
  · have hq' : q < cn 3 + 1 := hq
    show vp_updL (w 1) (cn 3) sc f ≤ vp_updL (w 1) (cn 3) sc q
    by_cases e : q = cn 3
    · rw [e, pk_uLs]
      by_cases e2 : f = cn 3
      · rw [e2, pk_uLs]
        exact Int64.le_refl _
      · rw [pk_uLn e2]
        exact Int64.le_trans (c4 f (cn 3 - 1) (by omega) (by omega)) (Int64.not_lt.mp (fun z => k5 ⟨by omega, z⟩))
    · rw [pk_uLn e, pk_uLn (by omega)]
      exact c4 f q hfq (by omega)
  · have h9 := (d1 b hb).1
    unfold RelB at h9 ⊢
    simp only [gramsM_feed]
    rw [va_ne (show b + 100 ≠ 2 by omega), va_ne (show b + 200 ≠ 3 by omega), va_ne (show b + 200 ≠ 1 by omega)]
    exact h9
  · intro a b ha hb hab
    rw [va_ne (show a + 100 ≠ 2 by omega), va_ne (show b + 100 ≠ 2 by omega)]
    exact e1 a b ha hb hab
  · intro s hs
    rw [va_ne (show s + 300 ≠ 2 by omega)]
    exact g1 s hs
  · have h9 := l1 li hli
    unfold RelL at h9 ⊢
    simp only [loadM_feed]
    rw [va_ne (show li + 400 ≠ 2 by omega), va_ne (show li + 400 ≠ 3 by omega), va_ne (show li + 400 ≠ 1 by omega)]
    exact h9
