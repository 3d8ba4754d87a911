/-- one code's cell anew -/
def zup (f : zW) (k : Nat) (y : va_E) : zW := fun j => if j = k then some y else f j
def zad (ad : Nat → Nat) (k a : Nat) : Nat → Nat := fun j => if j = k then a else ad j
theorem zup_same {f : zW} {k : Nat} {y : va_E} : zup f k y k = some y := if_pos rfl
theorem zup_ne {f : zW} {k j : Nat} {y : va_E} (h : j ≠ k) : zup f k y j = f j := if_neg h
theorem zad_same {ad : Nat → Nat} {k a : Nat} : zad ad k a k = a := if_pos rfl
theorem zad_ne {ad : Nat → Nat} {k j a : Nat} (h : j ≠ k) : zad ad k a j = ad j := if_neg h
theorem zP_one {G : va_G} {B : Nat} {ad : Nat → Nat} {f : zW} {H : Heap} {k : Nat} {x : va_E} (h : zP G B ad f H) (hk : f k = some x) : va_P G vwCl [(ad k, x)] H := by
  intro i q hi
  have hz : i < 1 := (List.getElem?_eq_some_iff.mp hi).1
  obtain rfl : i = 0 := by omega
  cases hi
  exact (h.1 k x hk).1
theorem zP_set {G : va_G} {B : Nat} {ad : Nat → Nat} {f : zW} {H H1 : Heap} {k : Nat} {x y : va_E} (h : zP G B ad f H) (hk : f k = some x) (hy : va_at G vwCl (ad k, y) H1) (oq : ∀ q, q ≠ ad k → H1[q]? = H[q]?) : zP G B ad (zup f k y) H1 := by
  have hn : f k ≠ none := by rw [hk]; exact fun h => by cases h
  have dom : ∀ j, zup f k y j ≠ none → f j ≠ none := fun j hj => by
    by_cases e : j = k
    · rw [e]; exact hn
    · rwa [zup_ne e] at hj
  refine ⟨fun j z hj => ?_, fun i j hi hj e => h.2 i j (dom i hi) (dom j hj) e⟩
  by_cases e : j = k
  · subst e
    rw [zup_same] at hj
    cases hj
    exact ⟨hy, (h.1 j x hk).2⟩
  · rw [zup_ne e] at hj
    obtain ⟨a1, a2⟩ := h.1 j z hj
    exact ⟨a1.kept (oq _ fun q => e (h.2 j k (by rw [hj]; exact fun h => by cases h) hn q)), a2⟩
theorem zF_set {ad0 ad : Nat → Nat} {f0 f : zW} {H0 H H1 : Heap} {k : Nat} {x y : va_E} (h : zF ad0 f0 ad f H0 H) (hk : f k = some x) (z : H1.size = H.size) (oq : ∀ q, q ≠ ad k → H1[q]? = H[q]?) : zF ad0 f0 ad (zup f k y) H0 H1 := by
  have hn : f k ≠ none := by rw [hk]; exact fun h => by cases h
  obtain ⟨a1, a2, a3, a4⟩ := h
  refine ⟨by rw [z]; exact a1, fun q h1 h2 => ?_, fun j hj => ⟨?_, (a3 j hj).2⟩, fun j hj => a4 j ?_⟩
  · rw [oq q, a2 q h1 h2]
    intro e
    rcases a4 k hn with h3 | h3
    · exact h2 k h3 ((a3 k h3).2 ▸ e.symm)
    · omega
  · by_cases e : j = k
    · rw [e, zup_same]; exact fun h => by cases h
    · rw [zup_ne e]; exact (a3 j hj).1
  · by_cases e : j = k
    · rw [e]; exact hn
    · rwa [zup_ne e] at hj
theorem zP_new {G : va_G} {B : Nat} {ad : Nat → Nat} {f : zW} {H H1 : Heap} {k : Nat} {y : va_E} (h : zP G B ad f H) (hk : f k = none) (hB : B ≤ H.size) (hy : va_at G vwCl (H.size, y) H1) (oq : ∀ q, q < H.size → H1[q]? = H[q]?) : zP G B (zad ad k H.size) (zup f k y) H1 := by
  have lt : ∀ j, f j ≠ none → ad j < H.size := fun j hj => by
    obtain ⟨x, hx⟩ := Option.ne_none_iff_exists'.mp hj
    exact (h.1 j x hx).1.lt
  refine ⟨fun j z hj => ?_, fun i j hi hj e => ?_⟩
  · by_cases e : j = k
    · subst e
      rw [zup_same] at hj
      cases hj
      rw [zad_same]
      exact ⟨hy, hB⟩
    · rw [zup_ne e] at hj
      rw [zad_ne e]
      obtain ⟨a1, a2⟩ := h.1 j z hj
      exact ⟨a1.kept (oq _ a1.lt), a2⟩
  · by_cases ei : i = k
    · by_cases ej : j = k
      · rw [ei, ej]
      · rw [zup_ne ej] at hj
        rw [ei, zad_same, zad_ne ej] at e
        exact absurd (lt j hj) (by omega)
    · rw [zup_ne ei] at hi
      by_cases ej : j = k
      · rw [ej, zad_same, zad_ne ei] at e
        exact absurd (lt i hi) (by omega)
      · rw [zup_ne ej] at hj
        rw [zad_ne ei, zad_ne ej] at e
        exact h.2 i j hi hj e
theorem zF_new {ad0 ad : Nat → Nat} {f0 f : zW} {H0 H H1 : Heap} {k : Nat} {y : va_E} (h : zF ad0 f0 ad f H0 H) (hk : f k = none) (z : H1.size = H.size + 1) (oq : ∀ q, q < H.size → H1[q]? = H[q]?) : zF ad0 f0 (zad ad k H.size) (zup f k y) H0 H1 := by
  obtain ⟨a1, a2, a3, a4⟩ := h
  refine ⟨by omega, fun q h1 h2 => by rw [oq q (by omega), a2 q h1 h2], fun j hj => ?_, fun j hj => ?_⟩
  · have e : j ≠ k := fun e => (a3 j hj).1 (e ▸ hk)
    rw [zup_ne e, zad_ne e]
    exact a3 j hj
  · by_cases e : j = k
    · rw [e, zad_same]; exact Or.inr a1
    · rw [zup_ne e] at hj
      rw [zad_ne e]
      exact a4 j hj
theorem wa_X0 : ∀ w ∈ u_ws RX0 TX0 9, w ∈ lw_all := by decide +kernel
theorem wa_X1 : ∀ w ∈ u_ws RX1 TX1 5, w ∈ lw_all := by decide +kernel
theorem wa_X2 : ∀ w ∈ u_ws RX2 TX2 2, w ∈ lw_all := by decide +kernel
theorem wa_X3 : ∀ w ∈ u_ws RX3 TX3 16, w ∈ lw_all := by decide +kernel
theorem wa_X4 : ∀ w ∈ u_ws RX4 TX4 28, w ∈ lw_all := by decide +kernel
theorem wa_J4 : ∀ w ∈ u_ws RJ4 TJ4 4, w ∈ lw_all := by decide +kernel
section ZH
variable {G : va_G} {cy : Nat → ClassId} {B nL : Nat} {ad0 : Nat → Nat} {f0 : zW} {p : Program} {l : Launch} {e : Env} {R : Room} {s : State} {m : MethodId} {args : Array Value} {below : List Frame} {meth : Method} {c : Code} {Q : State → Prop} {ad : Nat → Nat} {f : zW} {cells slots pc : Nat} {lv : List (Nat × Value)} {st : List Value} {cc : ByteArray} {ret : Option FieldType} {own : String}
theorem cx_K (X : Cx G cy B ad0 f0 cc nL ret own p s m args meth c) (d : Drawn) : va_K G vwCl (zTys cy) (s.setDrawn d) := va_K.moved (u := s) (U := s.setDrawn d) (Vm.Alike.refl s.vm) X.2.2.2.2.2.1.1
theorem cx_w (X : Cx G cy B ad0 f0 cc nL ret own p s m args meth c) (d : Drawn) : ∀ w ∈ lw_all, w.before args (s.setDrawn d) = true := dr_words X.2.2.2.2.1 d
theorem cx_o (X : Cx G cy B ad0 f0 cc nL ret own p s m args meth c) (d : Drawn) : (s.setDrawn d).vm.findClass own = some m.cls := X.2.2.2.1
theorem cx_n (X : Cx G cy B ad0 f0 cc nL ret own p s m args meth c) (d : Drawn) : ∀ w ∈ zN, w.before args (s.setDrawn d) = true := fun w hw => (Cond.before_setDrawn args s d w).trans (va_Nw.use (by simp only [zN, List.mem_cons, List.not_mem_nil, or_false] at hw; rcases hw with rfl | rfl | rfl | rfl | rfl | rfl | rfl | rfl | rfl | rfl | rfl | rfl <;> rfl) (X.2.2.2.2.2.1.2.1 w hw))
theorem cx_B (X : Cx G cy B ad0 f0 cc nL ret own p s m args meth c) : B ≤ s.heap.size := X.2.2.2.2.2.1.2.2.2.2.2.2
theorem z_get (X : Cx G cy B ad0 f0 cc nL ret own p s m args meth c) {C ref : String} {T : u_T} {N ci index : Nat} {fs : List Value} {a : Nat} {v : Value} (kc k : Nat) (hin : ∀ w ∈ u_ws C T N, w ∈ lw_all) (hc : vwCl[ci]? = some (C, T, N)) (ha : ad kc = a) (hf : f kc = some (.inr (ci, fs))) (hk : k < N) (hw : Cond.fieldLink own index ref (T k).2.1 (T k).2.2.1 ∈ lw_all) (hs : (T k).1 = ref) (hv : fs[k]? = some v) (hdg : decode cc pc = .ok (.getfield index, 3)) (kk : Z G B nL ad0 f0 p l e R s m args below meth c Q ad f cells slots (pc + 3) lv (v :: st)) : Z G B nL ad0 f0 p l e R s m args below meth c Q ad f cells slots (pc) lv (.ref a :: st) := by
  subst ha
  exact fun H locs d ls h1 h2 h3 h4 h5 => va_get X.1 X.2.1 (s := s.setDrawn d) (cx_w X d) hin (cx_o X d) (cx_K X d) (zP_one h2 hf) 0 rfl hc k hk (cx_w X d _ hw) (fun _ h => hs ▸ h) hv hdg (kk H locs d ls h1 h2 h3 h4 h5)
theorem z_getN (X : Cx G cy B ad0 f0 cc nL ret own p s m args meth c) {C ref : String} {T : u_T} {N ci index : Nat} {fs : List Value} {a : Nat} {v : Value} (kc k : Nat) (hin : ∀ w ∈ u_ws C T N, w ∈ lw_all) (hc : vwCl[ci]? = some (C, T, N)) (ha : ad kc = a) (hf : f kc = some (.inr (ci, fs))) (hk : k < N) (hw : Cond.fieldLinkNest own index ref (T k).2.1 (T k).2.2.1 RX3 ∈ zN) (hs : (T k).1 = ref) (hv : fs[k]? = some v) (hdg : decode cc pc = .ok (.getfield index, 3)) (kk : Z G B nL ad0 f0 p l e R s m args below meth c Q ad f cells slots (pc + 3) lv (v :: st)) : Z G B nL ad0 f0 p l e R s m args below meth c Q ad f cells slots (pc) lv (.ref a :: st) := by
  subst ha
  exact fun H locs d ls h1 h2 h3 h4 h5 => va_getN X.1 X.2.1 (s := s.setDrawn d) (cx_w X d) hin (cx_o X d) (cx_K X d) (zP_one h2 hf) 0 rfl hc k hk (cx_n X d _ hw) (fun _ h => hs ▸ h) hv hdg (kk H locs d ls h1 h2 h3 h4 h5)
theorem z_put (X : Cx G cy B ad0 f0 cc nL ret own p s m args meth c) {C ref : String} {T : u_T} {N ci index : Nat} {fs : List Value} {a : Nat} {v : Value} (kc k : Nat) (hin : ∀ w ∈ u_ws C T N, w ∈ lw_all) (ty0 : Nat → FieldType) (hty : ∀ k, k < N → parseFieldDescriptor (T k).2.2.1 = some (ty0 k)) (hnm : ∀ a, a < N → ∀ b, b < N → a ≠ b → (T a).2.1 ≠ (T b).2.1) (hc : vwCl[ci]? = some (C, T, N)) (ha : ad kc = a) (hf : f kc = some (.inr (ci, fs))) (hk : k < N) (hw : Cond.fieldLink own index ref (T k).2.1 (T k).2.2.1 ∈ lw_all) (hs : (T k).1 = ref) (hfin : (T k).2.2.2 = false) {ty : FieldType} (hd : parseFieldDescriptor (T k).2.2.1 = some ty) (hn : narrow ty v = v) (hfit : fits ty v = true) (hl : k < fs.length) (hdg : decode cc pc = .ok (.putfield index, 3)) (kk : Z G B nL ad0 f0 p l e R s m args below meth c Q ad (zup f kc (.inr (ci, fs.set k v))) cells slots (pc + 3) lv (st)) : Z G B nL ad0 f0 p l e R s m args below meth c Q ad f cells slots (pc) lv (v :: .ref a :: st) := by
  subst ha
  intro H locs d ls h1 h2 h3 h4 h5
  have hts := cx_w X d
  have hK := cx_K X d
  have hap := va_apart (own := own) hts hin ty0 hty hnm hK hc
  obtain ⟨r, g1, cell, q1, q2, q3, q4⟩ := (h2.1 kc _ hf).1
  have hr : r = (C, T, N) := Option.some.inj (g1.symm.trans hc)
  subst hr
  obtain ⟨hSl, hfc, kC, hkC, hkind⟩ := hK.1 ci _ hc
  obtain ⟨cf, kf, fi, fd, hi, hsl⟩ := hSl k hk
  have hlay := hts _ (hin _ (u_in_lay hk))
  unfold u_lay at hlay
  rw [if_neg (by rw [hfin]; decide)] at hlay
  have hst := (u_facts hfc hkC (u_lays hts hin hk) hi).1
  refine W.putK X.1 X.2.1 (s := s.setDrawn d) (f := fd) ⟨cx_o X d, cx_w X d _ hw, ⟨_, _, _, hs ▸ hi⟩, hst⟩ (by rw [q2]; exact u_store hfc hkC hkind hlay hi hd hn hfit) q1 q3 (by rw [hsl]; exact k2_hasslot (q4 k hk)) rfl rfl hdg fun H' e1 e2 e3 => ?_
  rw [hsl] at e1
  refine kk H' _ d ls h1 (zP_set h2 hf ⟨_, hc, t_OB.to (V := updV (vp_V fs) k v) ⟨_, e1, q2, q3, t_set q4 hap hk v⟩ (fun j _ => vp_updV_set hl v j)⟩ e3) (zF_set h3 hf e2 e3) (fun q hq => ?_) h5
  rcases List.mem_append.mp hq with hq | hq
  · exact h4 q hq
  · rw [List.mem_singleton.mp hq]; exact (h2.1 kc _ hf).2
theorem z_putN (X : Cx G cy B ad0 f0 cc nL ret own p s m args meth c) {C ref : String} {T : u_T} {N ci index : Nat} {fs : List Value} {a : Nat} {v : Value} (kc k : Nat) (hin : ∀ w ∈ u_ws C T N, w ∈ lw_all) (ty0 : Nat → FieldType) (hty : ∀ k, k < N → parseFieldDescriptor (T k).2.2.1 = some (ty0 k)) (hnm : ∀ a, a < N → ∀ b, b < N → a ≠ b → (T a).2.1 ≠ (T b).2.1) (hc : vwCl[ci]? = some (C, T, N)) (ha : ad kc = a) (hf : f kc = some (.inr (ci, fs))) (hk : k < N) (hw : Cond.fieldLinkNest own index ref (T k).2.1 (T k).2.2.1 RX3 ∈ zN) (hs : (T k).1 = ref) (hfin : (T k).2.2.2 = false) {ty : FieldType} (hd : parseFieldDescriptor (T k).2.2.1 = some ty) (hn : narrow ty v = v) (hfit : fits ty v = true) (hl : k < fs.length) (hdg : decode cc pc = .ok (.putfield index, 3)) (kk : Z G B nL ad0 f0 p l e R s m args below meth c Q ad (zup f kc (.inr (ci, fs.set k v))) cells slots (pc + 3) lv (st)) : Z G B nL ad0 f0 p l e R s m args below meth c Q ad f cells slots (pc) lv (v :: .ref a :: st) := by
  subst ha
  intro H locs d ls h1 h2 h3 h4 h5
  have hts := cx_w X d
  have hK := cx_K X d
  have hap := va_apart (own := own) hts hin ty0 hty hnm hK hc
  obtain ⟨r, g1, cell, q1, q2, q3, q4⟩ := (h2.1 kc _ hf).1
  have hr : r = (C, T, N) := Option.some.inj (g1.symm.trans hc)
  subst hr
  obtain ⟨hSl, hfc, kC, hkC, hkind⟩ := hK.1 ci _ hc
  obtain ⟨cf, kf, fi, fd, hi, hsl⟩ := hSl k hk
  have hlay := hts _ (hin _ (u_in_lay hk))
  unfold u_lay at hlay
  rw [if_neg (by rw [hfin]; decide)] at hlay
  have hst := (u_facts hfc hkC (u_lays hts hin hk) hi).1
  refine va_WputK X.1 X.2.1 (s := s.setDrawn d) (f := fd) (cx_o X d) (cx_n X d _ hw) (hs ▸ hi) hst (by rw [q2]; exact u_store hfc hkC hkind hlay hi hd hn hfit) q1 q3 (by rw [hsl]; exact k2_hasslot (q4 k hk)) rfl rfl hdg fun H' e1 e2 e3 => ?_
  rw [hsl] at e1
  refine kk H' _ d ls h1 (zP_set h2 hf ⟨_, hc, t_OB.to (V := updV (vp_V fs) k v) ⟨_, e1, q2, q3, t_set q4 hap hk v⟩ (fun j _ => vp_updV_set hl v j)⟩ e3) (zF_set h3 hf e2 e3) (fun q hq => ?_) h5
  rcases List.mem_append.mp hq with hq | hq
  · exact h4 q hq
  · rw [List.mem_singleton.mp hq]; exact (h2.1 kc _ hf).2
theorem z_putF (X : Cx G cy B ad0 f0 cc nL ret own p s m args meth c) {C ref : String} {T : u_T} {N ci index : Nat} {fs : List Value} {a : Nat} {v : Value} (kc k : Nat) (hin : ∀ w ∈ u_ws C T N, w ∈ lw_all) (ty0 : Nat → FieldType) (hty : ∀ k, k < N → parseFieldDescriptor (T k).2.2.1 = some (ty0 k)) (hnm : ∀ a, a < N → ∀ b, b < N → a ≠ b → (T a).2.1 ≠ (T b).2.1) (hc : vwCl[ci]? = some (C, T, N)) (ha : ad kc = a) (hf : f kc = some (.inr (ci, fs))) (hk : k < N) (hw : Cond.fieldLink own index ref (T k).2.1 (T k).2.2.1 ∈ lw_all) (hs : (T k).1 = ref) (hfin : (T k).2.2.2 = true) (hin2 : meth.name = "<init>") (hdecl : (T k).1 = own) {ty : FieldType} (hd : parseFieldDescriptor (T k).2.2.1 = some ty) (hn : narrow ty v = v) (hfit : fits ty v = true) (hl : k < fs.length) (hdg : decode cc pc = .ok (.putfield index, 3)) (kk : Z G B nL ad0 f0 p l e R s m args below meth c Q ad (zup f kc (.inr (ci, fs.set k v))) cells slots (pc + 3) lv (st)) : Z G B nL ad0 f0 p l e R s m args below meth c Q ad f cells slots (pc) lv (v :: .ref a :: st) := by
  subst ha
  intro H locs d ls h1 h2 h3 h4 h5
  have hts := cx_w X d
  have hK := cx_K X d
  have hap := va_apart (own := own) hts hin ty0 hty hnm hK hc
  obtain ⟨r, g1, cell, q1, q2, q3, q4⟩ := (h2.1 kc _ hf).1
  have hr : r = (C, T, N) := Option.some.inj (g1.symm.trans hc)
  subst hr
  obtain ⟨hSl, hfc, kC, hkC, hkind⟩ := hK.1 ci _ hc
  obtain ⟨cf, kf, fi, fd, hi, hsl⟩ := hSl k hk
  have hlay := hts _ (hin _ (u_in_lay hk))
  unfold u_lay at hlay
  rw [if_pos hfin] at hlay
  have hst := (u_facts hfc hkC (u_lays hts hin hk) hi).1
  have hcf : m.cls = cf := by
    obtain ⟨_, _, c', _, _, _, -, -, hf', -, -, -, hown2, -⟩ := Cond.laysFinal_spec hlay
    have e1 : c' = cf := by have := hi.symm.trans hf'; simp at this; exact this.1.symm
    rw [hdecl] at hown2
    rw [← e1]; exact Option.some.inj (X.2.2.2.1.symm.trans hown2)
  refine W.putFinK X.1 X.2.1 (s := s.setDrawn d) (cx_o X d) (cx_w X d _ hw) (hs ▸ hi) hst hcf hin2 (by rw [q2]; exact u_fits hfc hkC hkind (Or.inr hlay) hi hd hn hfit) q1 q3 (by rw [hsl]; exact k2_hasslot (q4 k hk)) rfl rfl hdg fun H' e1 e2 e3 => ?_
  rw [hsl] at e1
  refine kk H' _ d ls h1 (zP_set h2 hf ⟨_, hc, t_OB.to (V := updV (vp_V fs) k v) ⟨_, e1, q2, q3, t_set q4 hap hk v⟩ (fun j _ => vp_updV_set hl v j)⟩ e3) (zF_set h3 hf e2 e3) (fun q hq => ?_) h5
  rcases List.mem_append.mp hq with hq | hq
  · exact h4 q hq
  · rw [List.mem_singleton.mp hq]; exact (h2.1 kc _ hf).2
theorem z_iald (X : Cx G cy B ad0 f0 cc nL ret own p s m args meth c) {a n : Nat} {g : Nat → Int32} {i : Int32} (kc : Nat) (ha : ad kc = a) (hf : f kc = some (.inl (cy 1, n, .inl g))) (hi : vp_in i n) (hdg : decode cc pc = .ok (.iaload, 1)) (kk : Z G B nL ad0 f0 p l e R s m args below meth c Q ad f cells slots (pc + 1) lv (.int (g i.toNatClampNeg) :: st)) : Z G B nL ad0 f0 p l e R s m args below meth c Q ad f cells slots (pc) lv (.int i :: .ref a :: st) := by
  subst ha
  exact fun H locs d ls h1 h2 h3 h4 h5 => va_iald X.1 X.2.1 (s := s.setDrawn d) (cx_K X d) (zP_one h2 hf) 0 1 rfl rfl hi hdg (kk H locs d ls h1 h2 h3 h4 h5)
theorem z_lald (X : Cx G cy B ad0 f0 cc nL ret own p s m args meth c) {a n : Nat} {g : Nat → Int64} {i : Int32} (kc : Nat) (ha : ad kc = a) (hf : f kc = some (.inl (cy 0, n, .inr (.inl g)))) (hi : vp_in i n) (hdg : decode cc pc = .ok (.laload, 1)) (kk : Z G B nL ad0 f0 p l e R s m args below meth c Q ad f cells slots (pc + 1) lv (.long (g i.toNatClampNeg) :: st)) : Z G B nL ad0 f0 p l e R s m args below meth c Q ad f cells slots (pc) lv (.int i :: .ref a :: st) := by
  subst ha
  exact fun H locs d ls h1 h2 h3 h4 h5 => va_lald X.1 X.2.1 (s := s.setDrawn d) (cx_K X d) (zP_one h2 hf) 0 0 rfl rfl hi hdg (kk H locs d ls h1 h2 h3 h4 h5)
theorem z_dald (X : Cx G cy B ad0 f0 cc nL ret own p s m args meth c) {a n : Nat} {g : Nat → UInt64} {i : Int32} (kc : Nat) (ha : ad kc = a) (hf : f kc = some (.inl (cy 2, n, .inr (.inr (.inr (.inl g)))))) (hi : vp_in i n) (hdg : decode cc pc = .ok (.daload, 1)) (kk : Z G B nL ad0 f0 p l e R s m args below meth c Q ad f cells slots (pc + 1) lv (.double (g i.toNatClampNeg) :: st)) : Z G B nL ad0 f0 p l e R s m args below meth c Q ad f cells slots (pc) lv (.int i :: .ref a :: st) := by
  subst ha
  exact fun H locs d ls h1 h2 h3 h4 h5 => va_dald X.1 X.2.1 (s := s.setDrawn d) (cx_K X d) (zP_one h2 hf) 0 2 rfl rfl hi hdg (kk H locs d ls h1 h2 h3 h4 h5)
theorem z_bald (X : Cx G cy B ad0 f0 cc nL ret own p s m args meth c) {a n : Nat} {g : Nat → Int32} {i : Int32} (kc : Nat) (ha : ad kc = a) (hf : f kc = some (.inl (cy 3, n, .inl g))) (hi : vp_in i n) (hdg : decode cc pc = .ok (.baload, 1)) (kk : Z G B nL ad0 f0 p l e R s m args below meth c Q ad f cells slots (pc + 1) lv (.int (g i.toNatClampNeg) :: st)) : Z G B nL ad0 f0 p l e R s m args below meth c Q ad f cells slots (pc) lv (.int i :: .ref a :: st) := by
  subst ha
  exact fun H locs d ls h1 h2 h3 h4 h5 => va_bald X.1 X.2.1 (s := s.setDrawn d) (cx_K X d) (zP_one h2 hf) 0 3 rfl rfl hi hdg (kk H locs d ls h1 h2 h3 h4 h5)
theorem z_aald (X : Cx G cy B ad0 f0 cc nL ret own p s m args meth c) {a n : Nat} {g : Nat → Option Nat} {i : Int32} {cA : ClassId} {C : String} (kc t0 : Nat) (ha : ad kc = a) (hf : f kc = some (.inl (cA, n, .inr (.inr (.inr (.inr g)))))) (ht : (zTys cy)[t0]? = some (cA, .object C)) (hi : vp_in i n) (hdg : decode cc pc = .ok (.aaload, 1)) (kk : Z G B nL ad0 f0 p l e R s m args below meth c Q ad f cells slots (pc + 1) lv (va_rf (g i.toNatClampNeg) :: st)) : Z G B nL ad0 f0 p l e R s m args below meth c Q ad f cells slots (pc) lv (.int i :: .ref a :: st) := by
  subst ha
  exact fun H locs d ls h1 h2 h3 h4 h5 => va_aldq X.1 X.2.1 (s := s.setDrawn d) (cx_K X d) (zP_one h2 hf) 0 t0 rfl ht hi hdg (kk H locs d ls h1 h2 h3 h4 h5)
theorem z_alen (X : Cx G cy B ad0 f0 cc nL ret own p s m args meth c) {a : Nat} {cA : ClassId} {x : vp_A} {ty : FieldType} {v : Int32} (kc t0 : Nat) (ha : ad kc = a) (hf : f kc = some (.inl (cA, x))) (ht : (zTys cy)[t0]? = some (cA, ty)) (hv : Int32.ofNat x.1 = v) (hdg : decode cc pc = .ok (.arraylength, 1)) (kk : Z G B nL ad0 f0 p l e R s m args below meth c Q ad f cells slots (pc + 1) lv (.int v :: st)) : Z G B nL ad0 f0 p l e R s m args below meth c Q ad f cells slots (pc) lv (.ref a :: st) := by
  subst ha
  exact fun H locs d ls h1 h2 h3 h4 h5 => va_alen X.1 X.2.1 (s := s.setDrawn d) (cx_K X d) (zP_one h2 hf) 0 t0 rfl ht hv hdg (kk H locs d ls h1 h2 h3 h4 h5)
theorem z_iast (X : Cx G cy B ad0 f0 cc nL ret own p s m args meth c) {a n : Nat} {g : Nat → Int32} {i : Int32} {x : Int32} (kc : Nat) (ha : ad kc = a) (hf : f kc = some (.inl (cy 1, n, .inl g))) (hi : vp_in i n) (hdg : decode cc pc = .ok (.iastore, 1)) (kk : Z G B nL ad0 f0 p l e R s m args below meth c Q ad (zup f kc (.inl (cy 1, n, .inl (upd g i.toNatClampNeg x)))) cells slots (pc + 1) lv (st)) : Z G B nL ad0 f0 p l e R s m args below meth c Q ad f cells slots (pc) lv (.int x :: .int i :: .ref a :: st) := by
  subst ha
  intro H locs d ls h1 h2 h3 h4 h5
  have hK := cx_K X d
  refine W.iast X.1 X.2.1 (s := s.setDrawn d) (h2.1 kc _ hf).1 ((hK.2 1 _ rfl).1 n (fun j => .int (g j))) (fun q => by cases q) (by show ¬ (i < 0 ∨ (arrV _ _ _).slots.size ≤ _); rw [arrV_size]; exact hi) rfl rfl hdg fun H1 e1 e2 e3 => ?_
  refine kk H1 _ d ls h1 (zP_set h2 hf ?_ e3) (zF_set h3 hf e2 e3) (fun q hq => ?_) h5
  · show H1[ad kc]? = some (vp_cell _ _)
    rw [e1, vp_cell_i, vp_cell_i, arrV_store]
    congr 2
    funext q
    by_cases hq : q = i.toNatClampNeg
    · subst hq
      simp [updV, upd]
    · simp [updV, upd, hq]
  · rcases List.mem_append.mp hq with hq | hq
    · exact h4 q hq
    · rw [List.mem_singleton.mp hq]; exact (h2.1 kc _ hf).2
theorem z_last (X : Cx G cy B ad0 f0 cc nL ret own p s m args meth c) {a n : Nat} {g : Nat → Int64} {i : Int32} {x : Int64} (kc : Nat) (ha : ad kc = a) (hf : f kc = some (.inl (cy 0, n, .inr (.inl g)))) (hi : vp_in i n) (hdg : decode cc pc = .ok (.lastore, 1)) (kk : Z G B nL ad0 f0 p l e R s m args below meth c Q ad (zup f kc (.inl (cy 0, n, .inr (.inl (vp_updL g i.toNatClampNeg x))))) cells slots (pc + 1) lv (st)) : Z G B nL ad0 f0 p l e R s m args below meth c Q ad f cells slots (pc) lv (.long x :: .int i :: .ref a :: st) := by
  subst ha
  intro H locs d ls h1 h2 h3 h4 h5
  have hK := cx_K X d
  refine W.last X.1 X.2.1 (s := s.setDrawn d) (h2.1 kc _ hf).1 ((hK.2 0 _ rfl).1 n (fun j => .long (g j))) (fun q => by cases q) (by show ¬ (i < 0 ∨ (arrV _ _ _).slots.size ≤ _); rw [arrV_size]; exact hi) rfl rfl hdg fun H1 e1 e2 e3 => ?_
  refine kk H1 _ d ls h1 (zP_set h2 hf ?_ e3) (zF_set h3 hf e2 e3) (fun q hq => ?_) h5
  · show H1[ad kc]? = some (vp_cell _ _)
    rw [e1, vp_cell_l, vp_cell_l, arrV_store]
    congr 2
    funext q
    by_cases hq : q = i.toNatClampNeg
    · subst hq
      simp [updV, vp_updL]
    · simp [updV, vp_updL, hq]
  · rcases List.mem_append.mp hq with hq | hq
    · exact h4 q hq
    · rw [List.mem_singleton.mp hq]; exact (h2.1 kc _ hf).2
theorem z_dast (X : Cx G cy B ad0 f0 cc nL ret own p s m args meth c) {a n : Nat} {g : Nat → UInt64} {i : Int32} {x : UInt64} (kc : Nat) (ha : ad kc = a) (hf : f kc = some (.inl (cy 2, n, .inr (.inr (.inr (.inl g)))))) (hi : vp_in i n) (hdg : decode cc pc = .ok (.dastore, 1)) (kk : Z G B nL ad0 f0 p l e R s m args below meth c Q ad (zup f kc (.inl (cy 2, n, .inr (.inr (.inr (.inl (vf_upd g i.toNatClampNeg x))))))) cells slots (pc + 1) lv (st)) : Z G B nL ad0 f0 p l e R s m args below meth c Q ad f cells slots (pc) lv (.double x :: .int i :: .ref a :: st) := by
  subst ha
  intro H locs d ls h1 h2 h3 h4 h5
  have hK := cx_K X d
  refine W.dast X.1 X.2.1 (s := s.setDrawn d) (h2.1 kc _ hf).1 ((hK.2 2 _ rfl).1 n (fun j => .double (g j))) (fun q => by cases q) (by show ¬ (i < 0 ∨ (arrV _ _ _).slots.size ≤ _); rw [arrV_size]; exact hi) rfl rfl hdg fun H1 e1 e2 e3 => ?_
  refine kk H1 _ d ls h1 (zP_set h2 hf ?_ e3) (zF_set h3 hf e2 e3) (fun q hq => ?_) h5
  · show H1[ad kc]? = some (vp_cell _ _)
    rw [e1, vp_cell_d, vp_cell_d, arrV_store]
    congr 2
    funext q
    by_cases hq : q = i.toNatClampNeg
    · subst hq
      simp [updV, vf_upd]
    · simp [updV, vf_upd, hq]
  · rcases List.mem_append.mp hq with hq | hq
    · exact h4 q hq
    · rw [List.mem_singleton.mp hq]; exact (h2.1 kc _ hf).2
theorem z_bast (X : Cx G cy B ad0 f0 cc nL ret own p s m args meth c) {a n : Nat} {g : Nat → Int32} {i x : Int32} (kc : Nat) (ha : ad kc = a) (hf : f kc = some (.inl (cy 3, n, .inl g))) (hi : vp_in i n) (hdg : decode cc pc = .ok (.bastore, 1)) (kk : Z G B nL ad0 f0 p l e R s m args below meth c Q ad (zup f kc (.inl (cy 3, n, .inl (upd g i.toNatClampNeg (vp_nar .byte x))))) cells slots (pc + 1) lv (st)) : Z G B nL ad0 f0 p l e R s m args below meth c Q ad f cells slots (pc) lv (.int x :: .int i :: .ref a :: st) := by
  subst ha
  intro H locs d ls h1 h2 h3 h4 h5
  have hK := cx_K X d
  refine W.bast X.1 X.2.1 (s := s.setDrawn d) (h2.1 kc _ hf).1 ((hK.2 3 _ rfl).1 n (fun j => .int (g j))) (fun q => by cases q) (by show ¬ (i < 0 ∨ (arrV _ _ _).slots.size ≤ _); rw [arrV_size]; exact hi) rfl rfl hdg fun H1 e1 e2 e3 => ?_
  refine kk H1 _ d ls h1 (zP_set h2 hf ?_ e3) (zF_set h3 hf e2 e3) (fun q hq => ?_) h5
  · show H1[ad kc]? = some (vp_cell _ _)
    rw [e1, vp_cell_i, vp_cell_i, arrV_store]
    congr 2
    funext q
    by_cases hq : q = i.toNatClampNeg
    · subst hq
      simp [updV, upd, vp_nar]
      try rfl
    · simp [updV, upd, hq]
  · rcases List.mem_append.mp hq with hq | hq
    · exact h4 q hq
    · rw [List.mem_singleton.mp hq]; exact (h2.1 kc _ hf).2
theorem z_aast (X : Cx G cy B ad0 f0 cc nL ret own p s m args meth c) {a n v : Nat} {g : Nat → Option Nat} {i : Int32} {cA : ClassId} {r : vw_C} {vs : List Value} {ci : Nat} (kc t0 kv : Nat) (ha : ad kc = a) (hf : f kc = some (.inl (cA, n, .inr (.inr (.inr (.inr g)))))) (ht : (zTys cy)[t0]? = some (cA, .object r.1)) (hav : ad kv = v) (hfv : f kv = some (.inr (ci, vs))) (hc : vwCl[ci]? = some r) (hi : vp_in i n) (hdg : decode cc pc = .ok (.aastore, 1)) (kk : Z G B nL ad0 f0 p l e R s m args below meth c Q ad (zup f kc (.inl (cA, n, .inr (.inr (.inr (.inr (va_up g i.toNatClampNeg (some v)))))))) cells slots (pc + 1) lv (st)) : Z G B nL ad0 f0 p l e R s m args below meth c Q ad f cells slots (pc) lv (.ref v :: .int i :: .ref a :: st) := by
  subst ha
  subst hav
  intro H locs d ls h1 h2 h3 h4 h5
  have hK := cx_K X d
  have hlt : i.toNatClampNeg < n := Nat.not_le.mp fun q => hi (Or.inr q)
  have h0 : ¬ i < 0 := fun q => hi (Or.inl q)
  obtain ⟨r', hr', cellV, g1, g2, g3, -⟩ := (h2.1 kv _ hfv).1
  have hcls := (hK.1 ci r hc).2
  obtain ⟨kA, comp, k1, k2, k3, -⟩ := (hK.2 t0 _ ht).2
  have hcomp : comp = G.1 ci := Option.some.inj (k3.symm.trans hcls.1)
  subst hcomp
  obtain ⟨kC, hkC, -⟩ := hcls.2
  refine W.aast X.1 X.2.1 (s := s.setDrawn d) (h2.1 kc _ hf).1 (fun q h => by cases h) (fun h => by cases h) k1 k2 rfl hkC ⟨h0, by show _ < (arrV _ _ _).slots.size; rw [arrV_size]; exact hlt⟩ g1 (fun q h => by rw [g3] at h; cases h) (by rw [g2]; exact hkC) (by rw [g2]; exact va_assign hcls) rfl rfl hdg fun H1 e1 e2 e3 => ?_
  refine kk H1 _ d ls h1 (zP_set h2 hf ?_ e3) (zF_set h3 hf e2 e3) (fun q hq => ?_) h5
  · show H1[ad kc]? = some (vp_cell _ _)
    rw [e1, vp_cell_q, vp_cell_q, arrV_store]
    congr 2
    funext q
    by_cases hq : q = i.toNatClampNeg
    · subst hq
      simp [updV, va_up, va_rf]
    · simp [updV, va_up, va_rf, hq]
  · rcases List.mem_append.mp hq with hq | hq
    · exact h4 q hq
    · rw [List.mem_singleton.mp hq]; exact (h2.1 kc _ hf).2
theorem z_new (X : Cx G cy B ad0 f0 cc nL ret own p s m args meth c) {C : String} {T : u_T} {N ci index : Nat} {fs : List Value} (kc : Nat) (hin : ∀ w ∈ u_ws C T N, w ∈ lw_all) (ty0 : Nat → FieldType) (hty : ∀ k, k < N → parseFieldDescriptor (T k).2.2.1 = some (ty0 k)) (hc : vwCl[ci]? = some (C, T, N)) (hf : f kc = none) (hcl : Cond.classLink own index C ∈ lw_all) (hins : Cond.instantiable C N ∈ lw_all) (hini : Cond.initialized C ∈ lw_all) (hfs : ∀ j, j < N → defaultValue (ty0 j) = vp_V fs j) (hcells : cells + 1 ≤ R.cells) (hslots : slots + N ≤ R.slots) (hdg : decode cc pc = .ok (.new index, 3)) (kk : ∀ a : Nat, Z G B nL ad0 f0 p l e R s m args below meth c Q (zad ad kc a) (zup f kc (.inr (ci, fs))) (cells + 1) (slots + N) (pc + 3) lv (.ref a :: st)) : Z G B nL ad0 f0 p l e R s m args below meth c Q ad f cells slots (pc) lv (st) := by
  intro H locs d ls h1 h2 h3 h4 h5
  have hts := cx_w X d
  have hK := cx_K X d
  have hB : B ≤ H.size := Nat.le_trans (cx_B X) h3.1
  have hKn := hK.1 ci _ hc
  refine W.newcK X.1 X.2.1 (s := s.setDrawn d) (cx_o X d) (hts _ hcl) (hts _ hins) (hts _ hini) rfl hdg hcells hslots hKn.2.1 rfl fun H1 kC hkC e1 z1 o1 => ?_
  exact kk H.size H1 locs d ls h1 (zP_new h2 hf hB ⟨_, hc, (u_born ty0 hts hin hKn hkC e1 hty).to hfs⟩ o1) (zF_new h3 hf z1 o1) h4 h5
theorem z_newa (X : Cx G cy B ad0 f0 cc nL ret own p s m args meth c) {atype : ArrayType} {ty : FieldType} {N' : Nat} {n : Int32} {a0 : vp_A} {cA : ClassId} (kc t0 : Nat) (hf : f kc = none) (harr : Cond.arrayClass (newarray.typeOf atype) ∈ lw_all) (hty : newarray.typeOf atype = ty) (ht : (zTys cy)[t0]? = some (cA, ty)) (ha : ∀ cA : ClassId, vp_cell cA a0 = arrV cA N' (fun _ => defaultValue ty)) (hn : ¬ n < 0) (hN : n.toNatClampNeg = N') (hbytes : N' * componentBytes ty ≤ 536870912) (hcells : cells + 1 ≤ R.cells) (hslots : slots + N' ≤ R.slots) (hdg : decode cc pc = .ok (.newarray atype, 2)) (kk : ∀ a : Nat, Z G B nL ad0 f0 p l e R s m args below meth c Q (zad ad kc a) (zup f kc (.inl (cA, a0))) (cells + 1) (slots + N') (pc + 2) lv (.ref a :: st)) : Z G B nL ad0 f0 p l e R s m args below meth c Q ad f cells slots (pc) lv (.int n :: st) := by
  subst hty
  intro H locs d ls h1 h2 h3 h4 h5
  have hK := cx_K X d
  have hB : B ≤ H.size := Nat.le_trans (cx_B X) h3.1
  refine va_newaK X.1 X.2.1 (s := s.setDrawn d) (cx_w X d _ harr) rfl hdg rfl hn hN hbytes hcells hslots rfl fun H1 cA' e1 z1 o1 hAr hNm => ?_
  have hcA : cA' = cA := by
    have h9 := (hK.2 t0 _ ht).2
    cases atype <;> exact Option.some.inj (hNm.symm.trans h9)
  subst hcA
  refine kk H.size H1 locs d ls h1 (zP_new h2 hf hB ?_ o1) (zF_new h3 hf z1 o1) h4 h5
  show H1[H.size]? = some (vp_cell _ _)
  rw [ha]
  exact e1
theorem z_newq (X : Cx G cy B ad0 f0 cc nL ret own p s m args meth c) {C : String} {index N' : Nat} {n : Int32} {cA : ClassId} (kc t0 : Nat) (hf : f kc = none) (hcl : Cond.classLink own index C ∈ lw_all) (hover : va_AO C s) (ht : (zTys cy)[t0]? = some (cA, .object C)) (hn : ¬ n < 0) (hN : n.toNatClampNeg = N') (hbytes : N' * 4 ≤ 536870912) (hcells : cells + 1 ≤ R.cells) (hslots : slots + N' ≤ R.slots) (hdg : decode cc pc = .ok (.anewarray index, 3)) (kk : ∀ a : Nat, Z G B nL ad0 f0 p l e R s m args below meth c Q (zad ad kc a) (zup f kc (.inl (cA, N', .inr (.inr (.inr (.inr (fun _ => none))))))) (cells + 1) (slots + N') (pc + 3) lv (.ref a :: st)) : Z G B nL ad0 f0 p l e R s m args below meth c Q ad f cells slots (pc) lv (.int n :: st) := by
  subst hN
  intro H locs d ls h1 h2 h3 h4 h5
  have hK := cx_K X d
  have hB : B ≤ H.size := Nat.le_trans (cx_B X) h3.1
  have hov : va_AO C (s.setDrawn d) := va_AO.moved (u := s) (Vm.Alike.refl s.vm) hover
  refine W.anew X.1 X.2.1 (s := s.setDrawn d) (cx_o X d) (cx_w X d _ hcl) (va_AO.use hov) rfl hdg rfl hn hbytes hcells hslots fun cA' kA comp f1 f2 f3 f4 => ?_
  have hcA : cA' = cA := by
    obtain ⟨_, _, -, -, -, h9⟩ := (hK.2 t0 _ ht).2
    exact Option.some.inj (f1.symm.trans h9)
  subst hcA
  generalize hH1 : H.push ({ cls := cA', slots := Array.replicate n.toNatClampNeg .null, vm := .none } : Cell) = H1
  have z1 : H1.size = H.size + 1 := by rw [← hH1, Array.size_push]
  have e1 : H1[H.size]? = some (arrV cA' n.toNatClampNeg (fun _ => .null)) := by rw [← hH1, Array.getElem?_push_size, ← arrV_new]
  have o1 : ∀ q : Nat, q < H.size → H1[q]? = H[q]? := fun q hq => by rw [← hH1, Array.getElem?_push, if_neg (Nat.ne_of_lt hq)]
  refine kk H.size H1 locs d ls h1 (zP_new h2 hf hB ?_ o1) (zF_new h3 hf z1 o1) h4 h5
  show H1[H.size]? = some (vp_cell _ _)
  rw [vp_cell_q]
  exact e1
theorem z_objInit (X : Cx G cy B ad0 f0 cc nL ret own p s m args meth c) {a idx : Nat} (hw : Cond.methodLink own idx Lib.objectInit ∈ lw_all) (hi : Cond.instanceMethod Lib.objectInit ∈ lw_all) (hcd : Cond.code Lib.objectInit ⟨#[0xb1]⟩ 1 none ∈ lw_all) (hd : decode cc pc = .ok (.invokespecial idx, 3)) (hframes : 1 ≤ R.frames) (hlocals : (st.map fun v => v.category).sum + 12 ≤ R.locals) (kk : Z G B nL ad0 f0 p l e R s m args below meth c Q ad f cells slots (pc + 3) lv (st)) : Z G B nL ad0 f0 p l e R s m args below meth c Q ad f cells slots (pc) lv (.ref a :: st) := by
  intro H locs d ls h1 h2 h3 h4 h5
  have hts := cx_w X d
  exact W.objInit X.1 X.2.1 (s := s.setDrawn d) (cx_o X d) (hts _ hw) (hts _ hi) (hts _ hcd) rfl (h5.1.trans X.2.2.1.symm) rfl hd hframes (by show 2 * 0 + _ + 12 ≤ _; omega) (kk H locs d ls h1 h2 h3 h4 h5)
theorem z_mmax (X : Cx G cy B ad0 f0 cc nL ret own p s m args meth c) {x y : Int32} {index : Nat} (hw : Cond.methodLink own index Lib.Math.max.name ∈ lw_all) (hs : Cond.static Lib.Math.max.name ∈ lw_all) (hi : Cond.initialized "java/lang/Math" ∈ lw_all) (hcd : Cond.code Lib.Math.max.name Lib.Math.max.code 2 (some .int) ∈ lw_all) (hframes : 1 ≤ R.frames) (hlocals : (st.map fun v => v.category).sum + 13 ≤ R.locals) (hc : cells ≤ R.cells) (hsl : slots ≤ R.slots) (hdg : decode cc pc = .ok (.invokestatic index, 3)) (kk : Z G B nL ad0 f0 p l e R s m args below meth c Q ad f cells slots (pc + 3) lv (.int (if x < y then y else x) :: st)) : Z G B nL ad0 f0 p l e R s m args below meth c Q ad f cells slots (pc) lv (.int y :: .int x :: st) := by
  intro H locs d ls h1 h2 h3 h4 h5
  have hts := cx_w X d
  exact va_mmax X.1 X.2.1 (s := s.setDrawn d) (X.2.2.1.trans h5.1.symm) (cx_o X d) (hts _ hw) (hts _ hs) (hts _ hi) (hts _ hcd) hframes hlocals hc hsl hdg (kk H locs d ls h1 h2 h3 h4 h5)
theorem z_mmin (X : Cx G cy B ad0 f0 cc nL ret own p s m args meth c) {x y : Int32} {index : Nat} (hw : Cond.methodLink own index Lib.Math.min.name ∈ lw_all) (hs : Cond.static Lib.Math.min.name ∈ lw_all) (hi : Cond.initialized "java/lang/Math" ∈ lw_all) (hcd : Cond.code Lib.Math.min.name Lib.Math.min.code 2 (some .int) ∈ lw_all) (hframes : 1 ≤ R.frames) (hlocals : (st.map fun v => v.category).sum + 13 ≤ R.locals) (hc : cells ≤ R.cells) (hsl : slots ≤ R.slots) (hdg : decode cc pc = .ok (.invokestatic index, 3)) (kk : Z G B nL ad0 f0 p l e R s m args below meth c Q ad f cells slots (pc + 3) lv (.int (if y < x then y else x) :: st)) : Z G B nL ad0 f0 p l e R s m args below meth c Q ad f cells slots (pc) lv (.int y :: .int x :: st) := by
  intro H locs d ls h1 h2 h3 h4 h5
  have hts := cx_w X d
  exact va_mmin X.1 X.2.1 (s := s.setDrawn d) (X.2.2.1.trans h5.1.symm) (cx_o X d) (hts _ hw) (hts _ hs) (hts _ hi) (hts _ hcd) hframes hlocals hc hsl hdg (kk H locs d ls h1 h2 h3 h4 h5)
end ZH
