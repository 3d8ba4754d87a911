/-! PUT, FIRST, ALARM: equal answers -/
theorem put_ans {ad cn : Nat → Nat} {u : Nat → Nat → Int32} {w : Nat → Nat → Int64} {x : Nat → Nat → UInt64} {r : Nat → Nat → Option Nat} {dn : Nat → Nat} {v : Nat → Nat → Int32} {y : Nat → Nat → Int64} {z : Nat → Nat → UInt64} {j st : Nat} (h : Rel ad cn u w x r dn v y z) (hj : j < cn 6) (hst : st < cn 12) : putM dn v y z j st = putC cn u w x j st := by
  obtain ⟨a1, ⟨⟨b1, b2, b3, b4, b5⟩, b6⟩, c1, d1, e1, f1, g1, l1, z1⟩ := h
  have hc12 := a1.1.2.2.2.2.1
  have g : ∀ b, b < cn 6 → ∀ k, k < 4 → w (b + 200) k = gramsM dn v y b (nI k) := fun b hb => (d1 b hb).1.2.2.1
  have c6 : ∀ b, b < cn 6 → v 6 b = u (b + 100) 4 := fun b hb => (d1 b hb).1.1.1
  have c10 : ∀ b, b < cn 6 → v 10 b = u (b + 100) 5 := fun b hb => (d1 b hb).1.1.2.2.2
  have k1 : cntN (fun b => decide (onM v (nI st) b)) (dn 5) = cntN (fun b => decide (onC u (nI st) b)) (cn 6) := by
    rw [b2]
    refine cntN_congr _ (fun b hb => decide_eq_decide.mpr ?_)
    rw [onM, onC, c6 b hb, c10 b hb]
  have k2 : anyB (fun b => decide (othM dn v y j (nI st) b)) (dn 5) = anyB (fun b => decide (othC u w (nI st) (mainL (w (j + 200)) 3) b)) (cn 6) := by
    rw [b2]
    refine anyB_congr _ (fun b hb => decide_eq_decide.mpr ?_)
    rw [othM, othC, onM, onC, c6 b hb, c10 b hb, main_eq (g b hb), main_eq (g j hj)]
  have k3 : nearM dn v y j st (dn 5) = sumL (fun b => if nearC u st b then sumL (w (b + 200)) 4 else 0) (cn 6) + sumL (w (j + 200)) 4 := by
    rw [nearM, b2, Int64.add_comm, tot_eq (g j hj)]
    congr 1
    refine sumL_congr _ (fun b hb => ?_)
    have e : nearP v st b ↔ nearC u st b := by
      rw [nearP, nearC, c6 b hb]
      refine and_congr_right (fun hb1 => ?_)
      obtain ⟨s9, hs9, es⟩ := (d1 b hb).1.2.2.2.2.2 hb1
      rw [c10 b hb, es, nI_clamp (by omega), closeM, closeC, (g1 (hiN s9 st) (hi_lt hs9 hst)).1]
    by_cases hn : nearC u st b
    · rw [if_pos hn, if_pos (e.mpr hn), tot_eq (g b hb)]
    · rw [if_neg hn, if_neg (fun q => hn (e.mp q))]
  unfold putM putC
  rw [c6 j hj, k1, (g1 st hst).2, dGe_eqd (eqD_symm (d1 j hj).1.2.1) (eqD_refl _), k2, k3]
theorem alarm_ans {ad cn : Nat → Nat} {u : Nat → Nat → Int32} {w : Nat → Nat → Int64} {x : Nat → Nat → UInt64} {r : Nat → Nat → Option Nat} {dn : Nat → Nat} {v : Nat → Nat → Int32} {y : Nat → Nat → Int64} {z : Nat → Nat → UInt64} {k : Int32} (h : Rel ad cn u w x r dn v y z) : scanK (fun b => decide (alarmP v b)) k (dn 5) 0 0 = scanK (fun b => decide (alarmC u b)) k (cn 6) 0 0 := by
  obtain ⟨a1, ⟨⟨b1, b2, b3, b4, b5⟩, b6, b7⟩, c1, d1, h9⟩ := h
  rw [b2]
  refine scanK_congr _ _ _ (fun b _ hb => decide_eq_decide.mpr ?_)
  have hb' : b < cn 6 := by omega
  obtain ⟨⟨i1, i2, i3, i4⟩, i5, i6, i7, i8, i9⟩ := (d1 b hb').1
  rw [alarmP, alarmC, i1, i2, b6]
  refine and_congr_left (fun _ => ?_)
  rcases i8 with q | q | q | q <;> rw [q] <;> decide
theorem first_ans {ad cn : Nat → Nat} {u : Nat → Nat → Int32} {w : Nat → Nat → Int64} {x : Nat → Nat → UInt64} {r : Nat → Nat → Option Nat} {dn : Nat → Nat} {v : Nat → Nat → Int32} {y : Nat → Nat → Int64} {z : Nat → Nat → UInt64} {k : Int32} (h : Rel ad cn u w x r dn v y z) : scanF (fun b => decide (firstP dn v y k b)) (dn 5) 0 = scanF (fun b => decide (firstC u w k b)) (cn 6) 0 := by
  obtain ⟨a1, ⟨⟨b1, b2, b3, b4, b5⟩, b6, b7⟩, c1, d1, h9⟩ := h
  rw [b2]
  refine scanF_congr _ _ (fun b _ hb => decide_eq_decide.mpr ?_)
  have hb' : b < cn 6 := by omega
  rw [firstP, firstC, (d1 b hb').1.1.1, main_eq (d1 b hb').1.2.2.1]
