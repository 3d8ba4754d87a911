/-! THE START: what the premises say of the tables and the old cells -/
theorem arr_K {s : State} {args : Array Value} {ty : FieldType} (h : (Cond.arrayClass ty).before args s = true) : ∃ cA, ArrOfT s cA ty ∧ s.vm.findClass ("[" ++ ty.toString) = some cA := by
  obtain ⟨c, k, comp, h1, h2, h3⟩ := Cond.arrayClass_spec (args := args) (first := s) (o := none) (s := s) (idx := []) h
  exact ⟨c, fun n z => ⟨fun k h => (by cases h), k, h2, comp, h3⟩, h1⟩
theorem arrQ_K {s : State} {C : String} (h : va_AO C s) : ∃ cA, ArrOfT s cA (.object C) ∧ va_RA s cA (.object C) := by
  obtain ⟨comp, c, k, h1, h2, h3, h4, h5⟩ := Cond.arrayOver_spec (args := #[]) (first := s) (o := none) (s := s) (idx := []) h
  exact ⟨c, fun n z => ⟨fun k h => (by cases h), k, h3, comp, h4⟩, k, comp, h3, h4, h1, h5⟩
/-- the digits of Integer's tables, as the premises say -/
theorem dig1_l : ((flatC (Jvm.Cond.and given_1 narrow_1)).drop 12).take 100 = (List.range 100).map (fun j => Cond.eq (.elem (.static "java/lang/Integer" "DigitOnes" "[B") (.int (Int32.ofNat j))) (.int (sb_b (48 + j % 10)))) := by decide +kernel
theorem dig1_in (j : Nat) (hj : j < 100) : Cond.eq (.elem (.static "java/lang/Integer" "DigitOnes" "[B") (.int (Int32.ofNat j))) (.int (sb_b (48 + j % 10))) ∈ flatC (Jvm.Cond.and given_1 narrow_1) := List.mem_of_mem_drop (List.mem_of_mem_take (by rw [dig1_l]; exact List.mem_map.mpr ⟨j, List.mem_range.mpr hj, rfl⟩))
theorem dig2_l : ((flatC (Jvm.Cond.and given_1 narrow_1)).drop 115).take 100 = (List.range 100).map (fun j => Cond.eq (.elem (.static "java/lang/Integer" "DigitTens" "[B") (.int (Int32.ofNat j))) (.int (sb_b (48 + j / 10)))) := by decide +kernel
theorem dig2_in (j : Nat) (hj : j < 100) : Cond.eq (.elem (.static "java/lang/Integer" "DigitTens" "[B") (.int (Int32.ofNat j))) (.int (sb_b (48 + j / 10))) ∈ flatC (Jvm.Cond.and given_1 narrow_1) := List.mem_of_mem_drop (List.mem_of_mem_take (by rw [dig2_l]; exact List.mem_map.mpr ⟨j, List.mem_range.mpr hj, rfl⟩))
theorem st_St {s : State} {args : Array Value} (hts : ∀ w ∈ lw_tbl, w.before args s = true) (hgv : (Jvm.Cond.and given_1 narrow_1).before args s = true) : zSt s.heap.size s s.heap := by
  have hs := flat_of_before _ hgv
  have hA : ∀ a : Nat, a < s.heap.size → ¬ (fun q => s.heap.size ≤ q) a := fun a h => Nat.not_le.mpr h
  refine ⟨va_Zof (hts (.laysStatic "java/lang/String" "COMPACT_STRINGS" "Z") (by decide +kernel)) (hts (.initialized "java/lang/String") (by decide +kernel)) (va_eqt (hs (.eq (.static "java/lang/String" "COMPACT_STRINGS" "Z") (.int 1)) (by decide +kernel))) hA, ?_, ?_, va_Zqof (hts (.laysStatic "jdk/internal/util/Preconditions" "SIOOBE_FORMATTER" "Ljava/util/function/BiFunction;") (by decide +kernel)) (hts (.initialized "jdk/internal/util/Preconditions") (by decide +kernel)) (hs (.isRef (.static "jdk/internal/util/Preconditions" "SIOOBE_FORMATTER" "Ljava/util/function/BiFunction;")) (by decide +kernel)) hA⟩
  · obtain ⟨t, h1, h2⟩ := va_Tof (N := 100) (f := zDig1) (A := fun q => s.heap.size ≤ q) (by decide) (hs (.arrayOf (.static "java/lang/Integer" "DigitOnes" "[B") .byte) (by decide +kernel)) (va_eqt (hs (.eq (.length (.static "java/lang/Integer" "DigitOnes" "[B")) (.int 100)) (by decide +kernel))) (fun j hj => va_eqt (hs _ (dig1_in j hj))) hA
    exact ⟨t, va_Zof (hts (.laysStatic "java/lang/Integer" "DigitOnes" "[B") (by decide +kernel)) (hts (.initialized "java/lang/Integer") (by decide +kernel)) h1 hA, h2⟩
  · obtain ⟨t, h1, h2⟩ := va_Tof (N := 100) (f := zDig2) (A := fun q => s.heap.size ≤ q) (by decide) (hs (.arrayOf (.static "java/lang/Integer" "DigitTens" "[B") .byte) (by decide +kernel)) (va_eqt (hs (.eq (.length (.static "java/lang/Integer" "DigitTens" "[B")) (.int 100)) (by decide +kernel))) (fun j hj => va_eqt (hs _ (dig2_in j hj))) hA
    exact ⟨t, va_Zof (hts (.laysStatic "java/lang/Integer" "DigitTens" "[B") (by decide +kernel)) (hts (.initialized "java/lang/Integer") (by decide +kernel)) h1 hA, h2⟩
theorem lw_all_in {w : Cond} (h : w ∈ lw_all) : w = Cond.selects "java/lang/StringBuilder" ⟨"java/lang/AbstractStringBuilder", "ensureCapacityInternal", "(I)V"⟩ ⟨"java/lang/AbstractStringBuilder", "ensureCapacityInternal", "(I)V"⟩ ∨ w ∈ lw_tbl := List.mem_cons.mp (List.mem_filter.mp h).1
/-- a private method of a class above, called on an object of a class below: it is the one that is selected -/
theorem lw_privUp {C : String} {y : MethodName} {s : State} {args : Array Value} {n : Nat} (hy : y.cls ≠ "java/lang/invoke/MethodHandle" ∧ y.cls ≠ "java/lang/invoke/VarHandle")
    (hins : (Cond.instantiable C n).before args s = true) (hpriv : (Cond.privateMethod y).before args s = true) (hinst : (Cond.instanceMethod y).before args s = true) (hlay : ∃ m k, s.methodNamed? y = some m ∧ s.vm.classes[m.cls]? = some k ∧ k.isInterface = false) :
    (Cond.selects C y y).before args s = true := by
  obtain ⟨c, k, hc, hk, -, hniab, -, -⟩ := Cond.instantiable_spec hins
  obtain ⟨mk, methM, hnamed, hmethM, -, -⟩ := Cond.instanceMethod_spec hinst
  obtain ⟨m2, k2, hn2, hk2, hni2⟩ := hlay
  cases hnamed.symm.trans hn2
  have hfound : s.methodFound? y.cls y.name y.desc = some mk := State.methodFound?_of_named hnamed hy
  have hsel : selectMethod {} s.vm c mk = .method mk := selectMethod_private hmethM (Cond.privateMethod_at hpriv mk methM hnamed hmethM)
  simp only [Cond.before, Cond.holds, Cond.value, hc, hfound, hnamed, hsel, hk2]
  simp; exact hni2
theorem st_all {s : State} {args : Array Value} (hts : ∀ w ∈ lw_tbl, w.before args s = true) : ∀ w ∈ lw_all, w.before args s = true := by
  intro w hw
  rcases lw_all_in hw with rfl | h
  · have h1 := hts (.selects "java/lang/StringBuilder" ⟨"java/lang/AbstractStringBuilder", "isLatin1", "()Z"⟩ ⟨"java/lang/AbstractStringBuilder", "isLatin1", "()Z"⟩) (by decide +kernel)
    have h2 := hts (.instanceMethod ⟨"java/lang/AbstractStringBuilder", "ensureCapacityInternal", "(I)V"⟩) (by decide +kernel)
    have h3 := hts (.privateMethod ⟨"java/lang/AbstractStringBuilder", "ensureCapacityInternal", "(I)V"⟩) (by decide +kernel)
    have h4 := hts (.instantiable "java/lang/StringBuilder" 4) (by decide +kernel)
    obtain ⟨c, r, m, q1, q2, q3, q4, mk, q5, q6⟩ := Cond.selects_spec (args := args) (first := s) (o := none) (s := s) (idx := []) h1
    obtain ⟨m2, meth, p1, p2, p3, p4⟩ := Cond.instanceMethod_spec (args := args) (first := s) (o := none) (s := s) (idx := []) h2
    have f1 : s.vm.findClass "java/lang/AbstractStringBuilder" = some m2.cls := findClass_of_methodNamed p1
    have f2 : s.vm.findClass "java/lang/AbstractStringBuilder" = some m.cls := findClass_of_methodNamed q3
    have e : m2.cls = m.cls := Option.some.inj (f1.symm.trans f2)
    exact lw_privUp (by decide +kernel) h4 h3 h2 ⟨m2, mk, p1, by rw [e]; exact q5, q6⟩
  · exact hts w h
theorem st_K {s : State} {args : Array Value} (hts : ∀ w ∈ lw_tbl, w.before args s = true) (hgv : (Jvm.Cond.and given_1 narrow_1).before args s = true) : ∃ G cy, zK G cy s.heap.size s := by
  have hal := st_all hts
  obtain ⟨k0, i0, n0⟩ := u_known (C := RJ4) (T := TJ4) (N := 4) (n := 4) hal wa_J4 (hts (.instantiable RJ4 4) (by decide +kernel))
  obtain ⟨k1, i1, n1⟩ := u_known (C := RX0) (T := TX0) (N := 9) (n := 9) hal wa_X0 (hts (.instantiable RX0 9) (by decide +kernel))
  obtain ⟨k2, i2, n2⟩ := u_known (C := RX1) (T := TX1) (N := 5) (n := 5) hal wa_X1 (hts (.instantiable RX1 5) (by decide +kernel))
  obtain ⟨k3, i3, n3⟩ := u_known (C := RX2) (T := TX2) (N := 2) (n := 2) hal wa_X2 (hts (.instantiable RX2 2) (by decide +kernel))
  obtain ⟨k4, i4, n4⟩ := u_known (C := RX3) (T := TX3) (N := 16) (n := 16) hal wa_X3 (hts (.instantiable RX3 16) (by decide +kernel))
  obtain ⟨k5, i5, n5⟩ := u_known (C := RX4) (T := TX4) (N := 28) (n := 28) hal wa_X4 (hts (.instantiable RX4 28) (by decide +kernel))
  obtain ⟨a0, b0, d0⟩ := arr_K (hts (.arrayClass .long) (by decide +kernel))
  obtain ⟨a1, b1, d1⟩ := arr_K (hts (.arrayClass .int) (by decide +kernel))
  obtain ⟨a2, b2, d2⟩ := arr_K (hts (.arrayClass .double) (by decide +kernel))
  obtain ⟨a3, b3, d3⟩ := arr_K (hts (.arrayClass .byte) (by decide +kernel))
  have o4 : va_AO RX0 s := va_AO.of (hts (.arrayOver (.object RX0)) (by decide +kernel))
  have o5 : va_AO RX1 s := va_AO.of (hts (.arrayOver (.object RX1)) (by decide +kernel))
  have o6 : va_AO RX2 s := va_AO.of (hts (.arrayOver (.object RX2)) (by decide +kernel))
  obtain ⟨a4, b4, d4⟩ := arrQ_K o4
  obtain ⟨a5, b5, d5⟩ := arrQ_K o5
  obtain ⟨a6, b6, d6⟩ := arrQ_K o6
  refine ⟨(fun k => match k with | 0 => k0 | 1 => k1 | 2 => k2 | 3 => k3 | 4 => k4 | _ => k5, fun k => match k with | 0 => i0 | 1 => i1 | 2 => i2 | 3 => i3 | 4 => i4 | _ => i5), fun k => match k with | 0 => a0 | 1 => a1 | 2 => a2 | 3 => a3 | 4 => a4 | 5 => a5 | _ => a6, ⟨fun k q hq => ?_, fun k q hq => ?_⟩, fun w hw => ?_, o4, o5, o6, st_St hts hgv, Nat.le_refl _⟩
  · match k, hq with
    | 0, hq => cases hq; exact n0
    | 1, hq => cases hq; exact n1
    | 2, hq => cases hq; exact n2
    | 3, hq => cases hq; exact n3
    | 4, hq => cases hq; exact n4
    | 5, hq => cases hq; exact n5
    | k + 6, hq => simp [vwCl] at hq
  · match k, hq with
    | 0, hq => cases hq; exact ⟨b0, d0⟩
    | 1, hq => cases hq; exact ⟨b1, d1⟩
    | 2, hq => cases hq; exact ⟨b2, d2⟩
    | 3, hq => cases hq; exact ⟨b3, d3⟩
    | 4, hq => cases hq; exact ⟨b4, d4⟩
    | 5, hq => cases hq; exact ⟨b5, d5⟩
    | 6, hq => cases hq; exact ⟨b6, d6⟩
    | k + 7, hq => simp [zTys] at hq
  · have hin : ∀ w ∈ zN, w ∈ lw_tbl := by decide +kernel
    have hon : ∀ w ∈ zN, w.onTables = true := by decide +kernel
    exact va_Nw.of (hon w hw) (hts w (hin w hw))
