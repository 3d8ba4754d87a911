/-! FEED keeps the relation -/
theorem gramsM_feed {dn : Nat → Nat} {v : Nat → Nat → Int32} {y : Nat → Nat → Int64} {k9 : Int32} {sc g : Int64} (j : Nat) (k : Int32) : gramsM (va_up dn 0 (dn 0 + 1)) (va_up (va_up v 2 (upd (v 2) (dn 0) k9)) 4 (upd (v 4) (dn 0) (-1))) (va_up (va_up y 1 (vp_updL (y 1) (dn 0) sc)) 3 (vp_updL (y 3) (dn 0) g)) j k = gramsM dn v y j k := by
  show sumL (fun f => if ¬ upd (v 4) (dn 0) (-1) f < 0 ∧ upd (v 2) (dn 0) k9 f = k ∧ hasI (v 12) (v 13) j (upd (v 4) (dn 0) (-1) f) then vp_updL (y 3) (dn 0) g f else 0) (dn 0) + (if ¬ upd (v 4) (dn 0) (-1) (dn 0) < 0 ∧ upd (v 2) (dn 0) k9 (dn 0) = k ∧ hasI (v 12) (v 13) j (upd (v 4) (dn 0) (-1) (dn 0)) then vp_updL (y 3) (dn 0) g (dn 0) else 0) = _
  rw [if_neg (fun q => q.1 (by rw [pk_us]; decide)), Int64.add_zero]
  unfold gramsM
  refine sumL_congr _ (fun f hf => ?_)
  have e : f ≠ dn 0 := by omega
  simp only [pk_un e, pk_uLn e]
theorem loadM_feed {dn : Nat → Nat} {v : Nat → Nat → Int32} {y : Nat → Nat → Int64} {k9 : Int32} {sc g : Int64} (li mm ct : Nat) : loadM (va_up dn 0 (dn 0 + 1)) (va_up (va_up v 2 (upd (v 2) (dn 0) k9)) 4 (upd (v 4) (dn 0) (-1))) (va_up (va_up y 1 (vp_updL (y 1) (dn 0) sc)) 3 (vp_updL (y 3) (dn 0) g)) li mm ct = loadM dn v y li mm ct := by
  unfold loadM
  refine sumL_congr ct (fun i hi => ?_)
  unfold weightM
  rw [va_ne (show (24 : Nat) ≠ 4 by decide), va_ne (show (24 : Nat) ≠ 2 by decide)]
  simp only [gramsM_feed]
