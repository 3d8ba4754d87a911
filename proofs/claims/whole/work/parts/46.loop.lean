/-! THE LAW'S LOOP -/
theorem sub6 {i L : Nat} (hL : L ≤ 3072) (hi : i ≤ L) (h : ¬ nI L - nI 6 < nI i) : i + 6 ≤ L := by
  by_cases h6 : 6 ≤ L
  · rw [pk_sub h6] at h
    have h2 : ¬ L - 6 < i := fun q => h ((nI_ltI (by omega) (by omega)).mpr q)
    omega
  · exfalso
    apply h
    have h1 : nI L - nI 6 < 0 := by
      have h9 : ∀ L, L < 6 → nI L - nI 6 < 0 := by decide +kernel
      exact h9 L (by omega)
    exact Int32.lt_of_lt_of_le h1 (Int32.not_lt.mp (nI_pos (by omega)))
theorem tab_out : ∀ t, t < 32 → 20 ≤ t → (19 : Int) < (nI t).toInt := by decide +kernel
set_option maxHeartbeats 4000000 in
set_option maxRecDepth 100000 in
theorem law_loop {G : va_G} {cy : Nat → ClassId} {ad0 : Nat → Nat} {p : Program} {l : Launch} {e : Env} {s : State} {m : MethodId} {args : Array Value} {below : List Frame} {meth : Method} {c : Code} {Q : State → Prop} {ret : Option FieldType} {b L : Nat} {xs : Nat → Int32} {a0 a1 : Nat} (X : Cx G cy s.heap.size ad0 (fun _ => none) cL_law 8 ret RL p s m args meth c) (hX : va_X b L xs s s.heap) (hbl : b < s.heap.size) (hL : L ≤ 3072) (hret : ∀ A F cells slots lv, cells ≤ 600000 → slots ≤ 7302250 → Z G s.heap.size 8 ad0 (fun _ => none) p l e room_1 s m args below meth c Q A F cells slots 1004 lv []) : ∀ (n i cells slots : Nat) (A : Nat → Nat) (F : zW), RW cy a0 a1 A F → i ≤ L → L ≤ i + 6 * n + 5 → cells + 4 * n ≤ 600000 → slots + 26 * n ≤ 7302250 → Z G s.heap.size 8 ad0 (fun _ => none) p l e room_1 s m args below meth c Q A F cells slots 18 (lvI b a0 a1 i) [] := by
  intro n
  induction n with
  | zero =>
    intro i cells slots A F hW hiL hm hc hs
    refine z_iload_n X 3 dL_law_18 rfl rfl ?_
    refine z_aload_n X 0 dL_law_19 rfl rfl ?_
    refine z_slen X hX hbl dL_law_20 ?_
    refine z_bipush X (v := nI 6) dL_law_21 (by decide) ?_
    refine z_isub X dL_law_23 ?_
    refine z_icmp_gt X (tgt := 1004) dL_law_24 (by decide) (fun _ => hret _ _ _ _ _ (by omega) (by omega)) (fun h => ?_)
    have := sub6 hL hiL h
    omega
  | succ n ih =>
    intro i cells slots A F hW hiL hm hc hs
    refine z_iload_n X 3 dL_law_18 rfl rfl ?_
    refine z_aload_n X 0 dL_law_19 rfl rfl ?_
    refine z_slen X hX hbl dL_law_20 ?_
    refine z_bipush X (v := nI 6) dL_law_21 (by decide) ?_
    refine z_isub X dL_law_23 ?_
    refine z_icmp_gt X (tgt := 1004) dL_law_24 (by decide) (fun _ => hret _ _ _ _ _ (by omega) (by omega)) (fun h => ?_)
    have hi := sub6 hL hiL h
    refine z_aload_n X 0 dL_law_27 rfl rfl ?_
    refine z_iload_n X 3 dL_law_28 rfl rfl ?_
    refine z_sld X hX hbl hL (by omega) dL_law_29 ?_
    refine z_bipush X (v := 31) dL_law_30 (by decide) ?_
    refine z_iand X dL_law_32 ?_
    obtain ⟨t, ht, et⟩ := and31 (xs i)
    refine z_top (v' := .int (nI t)) (by rw [et]) ?_
    have kb : ∀ A F, RW cy a0 a1 A F → Z G s.heap.size 8 ad0 (fun _ => none) p l e room_1 s m args below meth c Q A F (cells + 4) (slots + 26) 998 (lvI b a0 a1 i) [] := fun A F hW2 => z_iincN X 3 (k := 6) dL_law_998 rfl (by decide) (by decide) rfl (z_goto X (tgt := 18) dL_law_1001 (by decide) (z_lv (lv' := lvI b a0 a1 (i + 6)) [1, 2, 3, 0] rfl (ih (i + 6) (cells + 4) (slots + 26) A F hW2 hi (by omega) (by omega) (by omega))))
    have hcs : cells + 4 ≤ 600000 ∧ slots + 26 ≤ 7302250 := ⟨by omega, by omega⟩
    rcases (show t = 0 ∨ t = 1 ∨ t = 2 ∨ t = 3 ∨ t = 4 ∨ t = 5 ∨ t = 6 ∨ t = 7 ∨ t = 8 ∨ t = 9 ∨ t = 10 ∨ t = 11 ∨ t = 12 ∨ t = 13 ∨ t = 14 ∨ t = 15 ∨ t = 16 ∨ t = 17 ∨ t = 18 ∨ t = 19 ∨ 20 ≤ t by omega) with rfl | rfl | rfl | rfl | rfl | rfl | rfl | rfl | rfl | rfl | rfl | rfl | rfl | rfl | rfl | rfl | rfl | rfl | rfl | rfl | h20
    · exact z_tabIn X (off := 95) (tgt := 128) dL_law_33 (by decide +kernel) (by decide +kernel) (by decide +kernel) (by decide) (arm_feed X hX hbl hL hi hW hcs kb)
    · exact z_tabIn X (off := 198) (tgt := 231) dL_law_33 (by decide +kernel) (by decide +kernel) (by decide +kernel) (by decide) (arm_bale X hX hbl hL hi hW hcs kb)
    · exact z_tabIn X (off := 251) (tgt := 284) dL_law_33 (by decide +kernel) (by decide +kernel) (by decide +kernel) (by decide) (arm_in X hX hbl hL hi hW hcs kb)
    · exact z_tabIn X (off := 285) (tgt := 318) dL_law_33 (by decide +kernel) (by decide +kernel) (by decide +kernel) (by decide) (arm_count X hX hbl hL hi hW hcs kb)
    · exact z_tabIn X (off := 309) (tgt := 342) dL_law_33 (by decide +kernel) (by decide +kernel) (by decide +kernel) (by decide) (arm_wires X hX hbl hL hi hW hcs kb)
    · exact z_tabIn X (off := 332) (tgt := 365) dL_law_33 (by decide +kernel) (by decide +kernel) (by decide +kernel) (by decide) (arm_size X hX hbl hL hi hW hcs kb)
    · exact z_tabIn X (off := 403) (tgt := 436) dL_law_33 (by decide +kernel) (by decide +kernel) (by decide +kernel) (by decide) (arm_row X hX hbl hL hi hW hcs kb)
    · exact z_tabIn X (off := 456) (tgt := 489) dL_law_33 (by decide +kernel) (by decide +kernel) (by decide +kernel) (by decide) (arm_warm X hX hbl hL hi hW hcs kb)
    · exact z_tabIn X (off := 537) (tgt := 570) dL_law_33 (by decide +kernel) (by decide +kernel) (by decide +kernel) (by decide) (arm_hold X hX hbl hL hi hW hcs kb)
    · exact z_tabIn X (off := 560) (tgt := 593) dL_law_33 (by decide +kernel) (by decide +kernel) (by decide +kernel) (by decide) (arm_alarm X hX hbl hL hi hW hcs kb)
    · exact z_tabIn X (off := 583) (tgt := 616) dL_law_33 (by decide +kernel) (by decide +kernel) (by decide +kernel) (by decide) (arm_stack X hX hbl hL hi hW hcs kb)
    · exact z_tabIn X (off := 616) (tgt := 649) dL_law_33 (by decide +kernel) (by decide +kernel) (by decide +kernel) (by decide) (arm_put X hX hbl hL hi hW hcs kb)
    · exact z_tabIn X (off := 649) (tgt := 682) dL_law_33 (by decide +kernel) (by decide +kernel) (by decide +kernel) (by decide) (arm_first X hX hbl hL hi hW hcs kb)
    · exact z_tabIn X (off := 672) (tgt := 705) dL_law_33 (by decide +kernel) (by decide +kernel) (by decide +kernel) (by decide) (arm_lorry X hX hbl hL hi hW hcs kb)
    · exact z_tabIn X (off := 765) (tgt := 798) dL_law_33 (by decide +kernel) (by decide +kernel) (by decide +kernel) (by decide) (arm_load X hX hbl hL hi hW hcs kb)
    · exact z_tabIn X (off := 798) (tgt := 831) dL_law_33 (by decide +kernel) (by decide +kernel) (by decide +kernel) (by decide) (arm_moment X hX hbl hL hi hW hcs kb)
    · exact z_tabIn X (off := 832) (tgt := 865) dL_law_33 (by decide +kernel) (by decide +kernel) (by decide +kernel) (by decide) (arm_rebale X hX hbl hL hi hW hcs kb)
    · exact z_tabIn X (off := 865) (tgt := 898) dL_law_33 (by decide +kernel) (by decide +kernel) (by decide +kernel) (by decide) (arm_brought X hX hbl hL hi hW hcs kb)
    · exact z_tabIn X (off := 909) (tgt := 942) dL_law_33 (by decide +kernel) (by decide +kernel) (by decide +kernel) (by decide) (arm_label X hX hbl hL hi hW hcs kb)
    · exact z_tabIn X (off := 942) (tgt := 975) dL_law_33 (by decide +kernel) (by decide +kernel) (by decide +kernel) (by decide) (arm_state X hX hbl hL hi hW hcs kb)
    · exact z_tabOut X (tgt := 998) dL_law_33 (Or.inr (tab_out t ht h20)) (by decide) (z_widen (Nat.le_add_right _ _) (Nat.le_add_right _ _) (kb _ _ hW))
