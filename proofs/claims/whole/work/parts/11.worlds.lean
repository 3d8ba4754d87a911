theorem upd_uu {f : Nat → Int32} {k : Nat} {a b : Int32} : upd (upd f k a) k b = upd f k b := by
  funext j
  unfold upd
  by_cases h : j = k <;> simp [h]
theorem vfu_uu {f : Nat → UInt64} {k : Nat} {a b : UInt64} : vf_upd (vf_upd f k a) k b = vf_upd f k b := by
  funext j
  unfold vf_upd
  by_cases h : j = k <;> simp [h]
theorem vpu_uu {f : Nat → Int64} {k : Nat} {a b : Int64} : vp_updL (vp_updL f k a) k b = vp_updL f k b := by
  funext j
  unfold vp_updL
  by_cases h : j = k <;> simp [h]
/-- sums of the first n -/
def sumL (g : Nat → Int64) : Nat → Int64
  | 0 => 0
  | n + 1 => sumL g n + g n
/-- THE REFERENCE'S WORLD. cn: counters, u: ints, w: longs, x: doubles, by the cell's code (the object is 0, an array has its field's number) -/
def mObj (ad cn : Nat → Nat) (u : Nat → Nat → Int32) : List Value := [.int (nI (cn 0)), .ref (ad 1), .ref (ad 2), .ref (ad 3), .ref (ad 4), .int (nI (cn 5)), .ref (ad 6), .ref (ad 7), .ref (ad 8), .ref (ad 9), .ref (ad 10), .ref (ad 11), .ref (ad 12), .ref (ad 13), .int (nI (cn 14)), .ref (ad 15), .ref (ad 16), .int (u 0 17), .int (nI (cn 18)), .ref (ad 19), .ref (ad 20), .int (nI (cn 21)), .ref (ad 22), .ref (ad 23), .ref (ad 24), .ref (ad 25), .int (u 0 26), .int (u 0 27)]
def mSh : Nat → Nat × Nat
  | 1 => (2, 200)
  | 2 => (1, 200)
  | 3 => (2, 200)
  | 4 => (1, 200)
  | 6 => (1, 12)
  | 7 => (3, 12)
  | 8 => (1, 12)
  | 9 => (1, 12)
  | 10 => (1, 12)
  | 11 => (1, 12)
  | 12 => (1, 12)
  | 13 => (1, 12)
  | 15 => (3, 6)
  | 16 => (3, 6)
  | 19 => (1, 4)
  | 20 => (1, 4)
  | 22 => (2, 3)
  | 23 => (2, 3)
  | 24 => (1, 24)
  | 25 => (1, 3)
  | _ => (0, 0)
def mArr (cy : Nat → ClassId) (u : Nat → Nat → Int32) (w : Nat → Nat → Int64) (x : Nat → Nat → UInt64) (sh : Nat → Nat × Nat) : zW := fun j =>
  if (sh j).1 = 1 then some (.inl (cy 1, (sh j).2, .inl (u j))) else if (sh j).1 = 2 then some (.inl (cy 0, (sh j).2, .inr (.inl (w j)))) else if (sh j).1 = 3 then some (.inl (cy 2, (sh j).2, .inr (.inr (.inr (.inl (x j)))))) else none
def MF (cy : Nat → ClassId) (ad cn : Nat → Nat) (u : Nat → Nat → Int32) (w : Nat → Nat → Int64) (x : Nat → Nat → UInt64) : zW := fun j => if j = 0 then some (.inr (5, mObj ad cn u)) else mArr cy u w x mSh j
theorem mArr_u {cy : Nat → ClassId} {u : Nat → Nat → Int32} {w : Nat → Nat → Int64} {x : Nat → Nat → UInt64} {sh : Nat → Nat × Nat} {k j : Nat} {g : Nat → Int32} (h : j ≠ k) : mArr cy (va_up u k g) w x sh j = mArr cy u w x sh j := by
  unfold mArr va_up
  rw [if_neg h]
theorem mArr_w {cy : Nat → ClassId} {u : Nat → Nat → Int32} {w : Nat → Nat → Int64} {x : Nat → Nat → UInt64} {sh : Nat → Nat × Nat} {k j : Nat} {g : Nat → Int64} (h : j ≠ k) : mArr cy u (va_up w k g) x sh j = mArr cy u w x sh j := by
  unfold mArr va_up
  rw [if_neg h]
theorem mArr_x {cy : Nat → ClassId} {u : Nat → Nat → Int32} {w : Nat → Nat → Int64} {x : Nat → Nat → UInt64} {sh : Nat → Nat × Nat} {k j : Nat} {g : Nat → UInt64} (h : j ≠ k) : mArr cy u w (va_up x k g) sh j = mArr cy u w x sh j := by
  unfold mArr va_up
  rw [if_neg h]
theorem MF_u {cy : Nat → ClassId} {ad cn : Nat → Nat} {u : Nat → Nat → Int32} {w : Nat → Nat → Int64} {x : Nat → Nat → UInt64} (k n : Nat) (hk : mSh k = (1, n)) (h0 : k ≠ 0) (g : Nat → Int32) : zup (MF cy ad cn u w x) k (.inl (cy 1, n, .inl g)) = MF cy ad cn (va_up u k g) w x := by
  funext j
  by_cases h : j = k
  · subst h
    rw [zup_same, MF, if_neg h0, mArr, hk, if_pos rfl]
    simp [va_up]
  · rw [zup_ne h]
    unfold MF
    rw [mArr_u h]
    have e : va_up u k g 0 = u 0 := if_neg (fun q => h0 q.symm)
    simp only [mObj, e]
theorem MF_w {cy : Nat → ClassId} {ad cn : Nat → Nat} {u : Nat → Nat → Int32} {w : Nat → Nat → Int64} {x : Nat → Nat → UInt64} (k n : Nat) (hk : mSh k = (2, n)) (h0 : k ≠ 0) (g : Nat → Int64) : zup (MF cy ad cn u w x) k (.inl (cy 0, n, .inr (.inl g))) = MF cy ad cn u (va_up w k g) x := by
  funext j
  by_cases h : j = k
  · subst h
    rw [zup_same, MF, if_neg h0, mArr, hk]
    simp [va_up]
  · rw [zup_ne h]
    unfold MF
    rw [mArr_w h]
theorem MF_x {cy : Nat → ClassId} {ad cn : Nat → Nat} {u : Nat → Nat → Int32} {w : Nat → Nat → Int64} {x : Nat → Nat → UInt64} (k n : Nat) (hk : mSh k = (3, n)) (h0 : k ≠ 0) (g : Nat → UInt64) : zup (MF cy ad cn u w x) k (.inl (cy 2, n, .inr (.inr (.inr (.inl g))))) = MF cy ad cn u w (va_up x k g) := by
  funext j
  by_cases h : j = k
  · subst h
    rw [zup_same, MF, if_neg h0, mArr, hk]
    simp [va_up]
  · rw [zup_ne h]
    unfold MF
    rw [mArr_x h]
theorem MF_o {cy : Nat → ClassId} {ad cn cn' : Nat → Nat} {u : Nat → Nat → Int32} {w : Nat → Nat → Int64} {x : Nat → Nat → UInt64} {g : Nat → Int32} {fs : List Value} (h : fs = mObj ad cn' (va_up u 0 g)) : zup (MF cy ad cn u w x) 0 (.inr (5, fs)) = MF cy ad cn' (va_up u 0 g) w x := by
  subst h
  funext j
  by_cases h : j = 0
  · subst h
    rw [zup_same, MF, if_pos rfl]
  · rw [zup_ne h]
    unfold MF
    rw [if_neg h, if_neg h, mArr_u h]
theorem up_self {α : Type} (f : Nat → α) (k : Nat) : va_up f k (f k) = f := by
  funext j
  unfold va_up
  by_cases h : j = k
  · subst h; rw [if_pos rfl]
  · rw [if_neg h]
theorem MF_c {cy : Nat → ClassId} {ad cn cn' : Nat → Nat} {u : Nat → Nat → Int32} {w : Nat → Nat → Int64} {x : Nat → Nat → UInt64} {fs : List Value} (h : fs = mObj ad cn' u) : zup (MF cy ad cn u w x) 0 (.inr (5, fs)) = MF cy ad cn' u w x := by
  have e := MF_o (cy := cy) (ad := ad) (cn := cn) (cn' := cn') (u := u) (w := w) (x := x) (g := u 0) (fs := fs) (by rw [up_self]; exact h)
  rw [up_self] at e
  exact e
/-- a place less -/
theorem pk_dec {n : Nat} (h : 0 < n) : nI n + Int32.ofInt (-1) = nI (n - 1) := sb_m1 h
