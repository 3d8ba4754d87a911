set_option maxHeartbeats 4000000 in
set_option maxRecDepth 100000 in
theorem c_X4_isIn (l : Launch) (G : va_G) (cy : Nat → ClassId) (B : Nat) (ad : Nat → Nat) (f : zW) (v0 a0 b0 : Int64) : Ct l G cy B yX4_isIn cX4_isIn 6 (some .boolean) ({ frames := 0, cells := 0, slots := 0, locals := 0 } : Room) ad f [.long v0, .long a0, .long b0] (fun v ad' f' => v = some (.int (nI (if a0 ≤ v0 ∧ v0 ≤ b0 then 1 else 0))) ∧ ad = ad' ∧ f = f') := by
  refine ct_of (by decide +kernel) (Nat.le_of_ble_eq_true rfl) ?_
  intro p e s m args below meth c X hnm
  refine z_lv (lv' := [(0, .long v0), (2, .long a0), (4, .long b0)]) [0, 1, 2] rfl ?_
  refine z_lload_n X 0 dX4_isIn_0 rfl rfl ?_
  refine z_lload_n X 1 dX4_isIn_1 rfl rfl ?_
  refine z_lcmp_lt X (tgt := 17) dX4_isIn_2 dX4_isIn_3 (by decide) (fun c2 => ?_) (fun c2 => ?_)
  · refine z_iconst X (v := nI 0) dX4_isIn_17 (by decide) ?_
    refine z_zret rfl X (Nat.le_of_ble_eq_true rfl) (Nat.le_of_ble_eq_true rfl) ?_ dX4_isIn_18
    exact ⟨by rw [if_neg (fun h => absurd h.1 (Int64.not_le.mpr c2))], rfl, rfl⟩
  · refine z_lload_n X 0 dX4_isIn_6 rfl rfl ?_
    refine z_lload X 2 dX4_isIn_7 rfl ?_
    refine z_lcmp_gt X (tgt := 17) dX4_isIn_9 dX4_isIn_10 (by decide) (fun c9 => ?_) (fun c9 => ?_)
    · refine z_iconst X (v := nI 0) dX4_isIn_17 (by decide) ?_
      refine z_zret rfl X (Nat.le_of_ble_eq_true rfl) (Nat.le_of_ble_eq_true rfl) ?_ dX4_isIn_18
      exact ⟨by rw [if_neg (fun h => absurd h.2 (Int64.not_le.mpr c9))], rfl, rfl⟩
    · refine z_iconst X (v := nI 1) dX4_isIn_13 (by decide) ?_
      refine z_goto X (tgt := 18) dX4_isIn_14 (by decide) ?_
      refine z_zret rfl X (Nat.le_of_ble_eq_true rfl) (Nat.le_of_ble_eq_true rfl) ?_ dX4_isIn_18
      exact ⟨by rw [if_pos ⟨Int64.not_lt.mp c2, Int64.not_lt.mp c9⟩], rfl, rfl⟩
set_option maxHeartbeats 4000000 in
set_option maxRecDepth 100000 in
theorem c_X3_isWithin (l : Launch) (G : va_G) (cy : Nat → ClassId) (B : Nat) (ad : Nat → Nat) (f : zW) (v0 a0 b0 : Int64) : Ct l G cy B yX3_isWithin cX3_isWithin 6 (some .boolean) ({ frames := 0, cells := 0, slots := 0, locals := 0 } : Room) ad f [.long v0, .long a0, .long b0] (fun v ad' f' => v = some (.int (nI (if a0 ≤ v0 ∧ v0 ≤ b0 then 1 else 0))) ∧ ad = ad' ∧ f = f') := by
  refine ct_of (by decide +kernel) (Nat.le_of_ble_eq_true rfl) ?_
  intro p e s m args below meth c X hnm
  refine z_lv (lv' := [(0, .long v0), (2, .long a0), (4, .long b0)]) [0, 1, 2] rfl ?_
  refine z_lload_n X 0 dX3_isWithin_0 rfl rfl ?_
  refine z_lload_n X 1 dX3_isWithin_1 rfl rfl ?_
  refine z_lcmp_lt X (tgt := 17) dX3_isWithin_2 dX3_isWithin_3 (by decide) (fun c2 => ?_) (fun c2 => ?_)
  · refine z_iconst X (v := nI 0) dX3_isWithin_17 (by decide) ?_
    refine z_zret rfl X (Nat.le_of_ble_eq_true rfl) (Nat.le_of_ble_eq_true rfl) ?_ dX3_isWithin_18
    exact ⟨by rw [if_neg (fun h => absurd h.1 (Int64.not_le.mpr c2))], rfl, rfl⟩
  · refine z_lload_n X 0 dX3_isWithin_6 rfl rfl ?_
    refine z_lload X 2 dX3_isWithin_7 rfl ?_
    refine z_lcmp_gt X (tgt := 17) dX3_isWithin_9 dX3_isWithin_10 (by decide) (fun c9 => ?_) (fun c9 => ?_)
    · refine z_iconst X (v := nI 0) dX3_isWithin_17 (by decide) ?_
      refine z_zret rfl X (Nat.le_of_ble_eq_true rfl) (Nat.le_of_ble_eq_true rfl) ?_ dX3_isWithin_18
      exact ⟨by rw [if_neg (fun h => absurd h.2 (Int64.not_le.mpr c9))], rfl, rfl⟩
    · refine z_iconst X (v := nI 1) dX3_isWithin_13 (by decide) ?_
      refine z_goto X (tgt := 18) dX3_isWithin_14 (by decide) ?_
      refine z_zret rfl X (Nat.le_of_ble_eq_true rfl) (Nat.le_of_ble_eq_true rfl) ?_ dX3_isWithin_18
      exact ⟨by rw [if_pos ⟨Int64.not_lt.mp c2, Int64.not_lt.mp c9⟩], rfl, rfl⟩
set_option maxHeartbeats 4000000 in
set_option maxRecDepth 100000 in
theorem c_X4_isWithin (l : Launch) (G : va_G) (cy : Nat → ClassId) (B : Nat) (ad : Nat → Nat) (f : zW) (v0 a0 b0 : UInt64) : Ct l G cy B yX4_isWithin cX4_isWithin 6 (some .boolean) ({ frames := 0, cells := 0, slots := 0, locals := 0 } : Room) ad f [.double v0, .double a0, .double b0] (fun v ad' f' => v = some (.int (nI (if dGe v0 a0 = true ∧ dLe v0 b0 = true then 1 else 0))) ∧ ad = ad' ∧ f = f') := by
  refine ct_of (by decide +kernel) (Nat.le_of_ble_eq_true rfl) ?_
  intro p e s m args below meth c X hnm
  refine z_lv (lv' := [(0, .double v0), (2, .double a0), (4, .double b0)]) [0, 1, 2] rfl ?_
  refine z_dload_n X 0 dX4_isWithin_0 rfl rfl ?_
  refine z_dload_n X 1 dX4_isWithin_1 rfl rfl ?_
  refine z_dcmp_lt X (tgt := 17) dX4_isWithin_2 dX4_isWithin_3 (by decide) (fun c2 => ?_) (fun c2 => ?_)
  · refine z_iconst X (v := nI 0) dX4_isWithin_17 (by decide) ?_
    refine z_zret rfl X (Nat.le_of_ble_eq_true rfl) (Nat.le_of_ble_eq_true rfl) ?_ dX4_isWithin_18
    exact ⟨by simp_all, rfl, rfl⟩
  · refine z_dload_n X 0 dX4_isWithin_6 rfl rfl ?_
    refine z_dload X 2 dX4_isWithin_7 rfl ?_
    refine z_dcmp_gt X (tgt := 17) dX4_isWithin_9 dX4_isWithin_10 (by decide) (fun c9 => ?_) (fun c9 => ?_)
    · refine z_iconst X (v := nI 0) dX4_isWithin_17 (by decide) ?_
      refine z_zret rfl X (Nat.le_of_ble_eq_true rfl) (Nat.le_of_ble_eq_true rfl) ?_ dX4_isWithin_18
      exact ⟨by simp_all, rfl, rfl⟩
    · refine z_iconst X (v := nI 1) dX4_isWithin_13 (by decide) ?_
      refine z_goto X (tgt := 18) dX4_isWithin_14 (by decide) ?_
      refine z_zret rfl X (Nat.le_of_ble_eq_true rfl) (Nat.le_of_ble_eq_true rfl) ?_ dX4_isWithin_18
      exact ⟨by simp_all, rfl, rfl⟩
set_option maxHeartbeats 4000000 in
set_option maxRecDepth 100000 in
theorem c_X3_isBetween (l : Launch) (G : va_G) (cy : Nat → ClassId) (B : Nat) (ad : Nat → Nat) (f : zW) (v0 a0 b0 : UInt64) : Ct l G cy B yX3_isBetween cX3_isBetween 6 (some .boolean) ({ frames := 0, cells := 0, slots := 0, locals := 0 } : Room) ad f [.double v0, .double a0, .double b0] (fun v ad' f' => v = some (.int (nI (if dGe v0 a0 = true ∧ dLe v0 b0 = true then 1 else 0))) ∧ ad = ad' ∧ f = f') := by
  refine ct_of (by decide +kernel) (Nat.le_of_ble_eq_true rfl) ?_
  intro p e s m args below meth c X hnm
  refine z_lv (lv' := [(0, .double v0), (2, .double a0), (4, .double b0)]) [0, 1, 2] rfl ?_
  refine z_dload_n X 0 dX3_isBetween_0 rfl rfl ?_
  refine z_dload_n X 1 dX3_isBetween_1 rfl rfl ?_
  refine z_dcmp_lt X (tgt := 17) dX3_isBetween_2 dX3_isBetween_3 (by decide) (fun c2 => ?_) (fun c2 => ?_)
  · refine z_iconst X (v := nI 0) dX3_isBetween_17 (by decide) ?_
    refine z_zret rfl X (Nat.le_of_ble_eq_true rfl) (Nat.le_of_ble_eq_true rfl) ?_ dX3_isBetween_18
    exact ⟨by simp_all, rfl, rfl⟩
  · refine z_dload_n X 0 dX3_isBetween_6 rfl rfl ?_
    refine z_dload X 2 dX3_isBetween_7 rfl ?_
    refine z_dcmp_gt X (tgt := 17) dX3_isBetween_9 dX3_isBetween_10 (by decide) (fun c9 => ?_) (fun c9 => ?_)
    · refine z_iconst X (v := nI 0) dX3_isBetween_17 (by decide) ?_
      refine z_zret rfl X (Nat.le_of_ble_eq_true rfl) (Nat.le_of_ble_eq_true rfl) ?_ dX3_isBetween_18
      exact ⟨by simp_all, rfl, rfl⟩
    · refine z_iconst X (v := nI 1) dX3_isBetween_13 (by decide) ?_
      refine z_goto X (tgt := 18) dX3_isBetween_14 (by decide) ?_
      refine z_zret rfl X (Nat.le_of_ble_eq_true rfl) (Nat.le_of_ble_eq_true rfl) ?_ dX3_isBetween_18
      exact ⟨by simp_all, rfl, rfl⟩
set_option maxHeartbeats 4000000 in
set_option maxRecDepth 100000 in
theorem c_X4_isKind (l : Launch) (G : va_G) (cy : Nat → ClassId) (B : Nat) (ad : Nat → Nat) (f : zW) (k : Int32) : Ct l G cy B yX4_isKind cX4_isKind 1 (some .boolean) ({ frames := 0, cells := 0, slots := 0, locals := 0 } : Room) ad f [.int k] (fun v ad' f' => v = some (.int (nI (if ¬ k < 0 ∧ ¬ nI 4 ≤ k then 1 else 0))) ∧ ad = ad' ∧ f = f') := by
  refine ct_of (by decide +kernel) (Nat.le_of_ble_eq_true rfl) ?_
  intro p e s m args below meth c X hnm
  refine z_lv (lv' := [(0, .int k)]) [0] rfl ?_
  refine z_iload_n X 0 dX4_isKind_0 rfl rfl ?_
  refine z_if_lt X (tgt := 13) dX4_isKind_1 (by decide) (fun c1 => ?_) (fun c1 => ?_)
  · refine z_iconst X (v := nI 0) dX4_isKind_13 (by decide) ?_
    refine z_zret rfl X (Nat.le_of_ble_eq_true rfl) (Nat.le_of_ble_eq_true rfl) ?_ dX4_isKind_14
    exact ⟨by simp_all, rfl, rfl⟩
  · refine z_iload_n X 0 dX4_isKind_4 rfl rfl ?_
    refine z_iconst X (v := nI 4) dX4_isKind_5 (by decide) ?_
    refine z_icmp_ge X (tgt := 13) dX4_isKind_6 (by decide) (fun c6 => ?_) (fun c6 => ?_)
    · refine z_iconst X (v := nI 0) dX4_isKind_13 (by decide) ?_
      refine z_zret rfl X (Nat.le_of_ble_eq_true rfl) (Nat.le_of_ble_eq_true rfl) ?_ dX4_isKind_14
      exact ⟨by simp_all, rfl, rfl⟩
    · refine z_iconst X (v := nI 1) dX4_isKind_9 (by decide) ?_
      refine z_goto X (tgt := 14) dX4_isKind_10 (by decide) ?_
      refine z_zret rfl X (Nat.le_of_ble_eq_true rfl) (Nat.le_of_ble_eq_true rfl) ?_ dX4_isKind_14
      exact ⟨by simp_all, rfl, rfl⟩
set_option maxHeartbeats 4000000 in
set_option maxRecDepth 100000 in
theorem c_X3_isKind (l : Launch) (G : va_G) (cy : Nat → ClassId) (B : Nat) (ad : Nat → Nat) (f : zW) (k : Int32) : Ct l G cy B yX3_isKind cX3_isKind 1 (some .boolean) ({ frames := 0, cells := 0, slots := 0, locals := 0 } : Room) ad f [.int k] (fun v ad' f' => v = some (.int (nI (if ¬ k < 0 ∧ ¬ nI 4 ≤ k then 1 else 0))) ∧ ad = ad' ∧ f = f') := by
  refine ct_of (by decide +kernel) (Nat.le_of_ble_eq_true rfl) ?_
  intro p e s m args below meth c X hnm
  refine z_lv (lv' := [(0, .int k)]) [0] rfl ?_
  refine z_iload_n X 0 dX3_isKind_0 rfl rfl ?_
  refine z_if_lt X (tgt := 13) dX3_isKind_1 (by decide) (fun c1 => ?_) (fun c1 => ?_)
  · refine z_iconst X (v := nI 0) dX3_isKind_13 (by decide) ?_
    refine z_zret rfl X (Nat.le_of_ble_eq_true rfl) (Nat.le_of_ble_eq_true rfl) ?_ dX3_isKind_14
    exact ⟨by simp_all, rfl, rfl⟩
  · refine z_iload_n X 0 dX3_isKind_4 rfl rfl ?_
    refine z_iconst X (v := nI 4) dX3_isKind_5 (by decide) ?_
    refine z_icmp_ge X (tgt := 13) dX3_isKind_6 (by decide) (fun c6 => ?_) (fun c6 => ?_)
    · refine z_iconst X (v := nI 0) dX3_isKind_13 (by decide) ?_
      refine z_zret rfl X (Nat.le_of_ble_eq_true rfl) (Nat.le_of_ble_eq_true rfl) ?_ dX3_isKind_14
      exact ⟨by simp_all, rfl, rfl⟩
    · refine z_iconst X (v := nI 1) dX3_isKind_9 (by decide) ?_
      refine z_goto X (tgt := 14) dX3_isKind_10 (by decide) ?_
      refine z_zret rfl X (Nat.le_of_ble_eq_true rfl) (Nat.le_of_ble_eq_true rfl) ?_ dX3_isKind_14
      exact ⟨by simp_all, rfl, rfl⟩
