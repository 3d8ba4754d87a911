/-! TEXTS -/
theorem t_cap {a : Nat} (h : a ≤ 16) : nI a - nI 16 ≤ 0 := by
  have h9 : ∀ b, b < 17 → nI b - nI 16 ≤ 0 := by decide
  exact h9 a (by omega)
theorem t_pl {k : Nat} (h : k ≤ 9) : 10 ^ k < 2 ^ 31 := Nat.lt_of_le_of_lt (Nat.pow_le_pow_right (by decide) h) (by decide)
theorem t_pw {k : Nat} (h : k ≤ 9) : nI 10 * -nI (10 ^ k) = -nI (10 ^ (k + 1)) := by
  rw [Int32.mul_neg, pk_mul, Nat.pow_succ, Nat.mul_comm]
theorem dg_val {v k : Nat} (hv : v < 10 ^ 9) (h1 : 1 ≤ k) (h9 : k ≤ 9) (hl : k = 1 ∨ 10 ^ (k - 1) ≤ v) (hu : v < 10 ^ k) : sb_dg v = k := by
  have hk : k = 1 ∨ k = 2 ∨ k = 3 ∨ k = 4 ∨ k = 5 ∨ k = 6 ∨ k = 7 ∨ k = 8 ∨ k = 9 := by omega
  unfold sb_dg
  rcases hk with rfl | rfl | rfl | rfl | rfl | rfl | rfl | rfl | rfl <;> (repeat' split) <;> omega
theorem t_dl {v k : Nat} (hv : v < 10 ^ 9) : v / 10 ^ k < 2 ^ 31 := Nat.lt_of_le_of_lt (Nat.div_le_self _ _) (by omega)
theorem t_d100 {v k : Nat} : v / 10 ^ (k + 2) = v / 10 ^ k / 100 := by
  rw [Nat.div_div_eq_div_mul, show k + 2 = k + 1 + 1 from rfl, Nat.pow_succ, Nat.pow_succ, Nat.mul_assoc]
theorem t_d10 {v k : Nat} : v / 10 ^ (k + 1) = v / 10 ^ k / 10 := by
  rw [Nat.div_div_eq_div_mul, Nat.pow_succ]
/-- c digits of v, the last one before p -/
def putD (g : Nat → Int32) (v p c : Nat) : Nat → Int32 := fun j => if p - c ≤ j ∧ j < p then sb_b (48 + v / 10 ^ (p - 1 - j) % 10) else g j
theorem putD_0 {g : Nat → Int32} {v p : Nat} : putD g v p 0 = g := by
  funext j
  unfold putD
  rw [if_neg (by omega)]
theorem putD_s {g : Nat → Int32} {v p c : Nat} (h : c < p) : upd (putD g v p c) (p - c - 1) (sb_b (48 + v / 10 ^ c % 10)) = putD g v p (c + 1) := by
  funext j
  unfold upd putD
  by_cases e : j = p - c - 1
  · rw [if_pos e, if_pos (by omega), show p - 1 - j = c by omega]
  · rw [if_neg e]
    by_cases e2 : p - c ≤ j ∧ j < p
    · rw [if_pos e2, if_pos (by omega)]
    · rw [if_neg e2, if_neg (by omega)]
theorem putD_1 {g : Nat → Int32} {v p c : Nat} (h : c < p) : upd (putD g v p c) (p - c - 1) (sb_b (48 + v / 10 ^ c % 10)) = putD g v p (c + 1) := putD_s h
theorem putD_2 {g : Nat → Int32} {v p c : Nat} (h : c + 1 < p) : upd (upd (putD g v p c) (p - c - 1) (sb_b (48 + v / 10 ^ c % 100 % 10))) (p - c - 1 - 1) (sb_b (48 + v / 10 ^ c % 100 / 10)) = putD g v p (c + 2) := by
  rw [show v / 10 ^ c % 100 % 10 = v / 10 ^ c % 10 by omega, putD_s (by omega), show v / 10 ^ c % 100 / 10 = v / 10 ^ (c + 1) % 10 by rw [t_d10]; omega, show p - c - 1 - 1 = p - (c + 1) - 1 by omega, putD_s h]
theorem putD_3 {g : Nat → Int32} {v p c : Nat} (h : c + 1 < p) (hw : v / 10 ^ c < 100) : upd (upd (putD g v p c) (p - c - 1) (sb_b (48 + v / 10 ^ c % 10))) (p - c - 1 - 1) (sb_b (48 + v / 10 ^ c / 10)) = putD g v p (c + 2) := by
  rw [putD_s (by omega), show v / 10 ^ c / 10 = v / 10 ^ (c + 1) % 10 by rw [t_d10]; generalize v / 10 ^ c = z at hw ⊢; omega, show p - c - 1 - 1 = p - (c + 1) - 1 by omega, putD_s h]
theorem t_min {n : Nat} (h : n ≤ 16) : (if nI 16 < nI n then nI 16 else nI n) = nI n := by
  rw [if_neg (fun q => absurd ((nI_ltI (by decide) (by omega)).mp q) (by omega))]
theorem t_chr {c : Nat} (h : c < 128) : narrow .char (.int (nI c)) = .int (nI c) := by
  have h9 : ∀ b, b < 128 → ((nI b).toUInt32 % 65536).toInt32 = nI b := by decide +kernel
  exact congrArg Value.int (h9 c h)
set_option maxHeartbeats 4000000 in
set_option maxRecDepth 100000 in
theorem t5_length (l : Launch) (G : va_G) (cy : Nat → ClassId) (B : Nat) (ad : Nat → Nat) (f : zW) (k0 k1 : Nat) (hne : k0 ≠ k1) (ml : Int32) (n : Nat) (hn : n ≤ 16) (g : Nat → Int32) (hb : f k0 = some (.inr (0, [.ref (ad k1), .int (nI 0), .int ml, .int (nI n)]))) (hg : f k1 = some (.inl (cy 3, 16, .inl g)))  : Ct l G cy B yJ5_length_8abf5 cJ5_length_8abf5 1 (some .int) ({ frames := 0, cells := 0, slots := 0, locals := 0 } : Room) ad f [.ref (ad k0)] (fun v ad' f' => v = some (.int (nI n)) ∧ ad = ad' ∧ f = f') := by
  refine ct_of (by decide +kernel) (Nat.le_of_ble_eq_true rfl) ?_
  intro p e s m args below meth c X hnm
  refine z_lv (lv' := [(0, .ref (ad k0))]) [0] rfl ?_
  refine z_aload_n X 0 dJ5_length_8abf5_0 rfl rfl ?_
  refine z_get X (v := .int (nI n)) k0 3 wa_J4 rfl rfl hb (by decide) q_71 rfl rfl dJ5_length_8abf5_1 ?_
  refine z_iret X (Nat.le_of_ble_eq_true rfl) (Nat.le_of_ble_eq_true rfl) ?_ dJ5_length_8abf5_4
  exact ⟨rfl, rfl, rfl⟩
set_option maxHeartbeats 4000000 in
set_option maxRecDepth 100000 in
theorem t_length (l : Launch) (G : va_G) (cy : Nat → ClassId) (B : Nat) (ad : Nat → Nat) (f : zW) (k0 k1 : Nat) (hne : k0 ≠ k1) (ml : Int32) (n : Nat) (hn : n ≤ 16) (g : Nat → Int32) (hb : f k0 = some (.inr (0, [.ref (ad k1), .int (nI 0), .int ml, .int (nI n)]))) (hg : f k1 = some (.inl (cy 3, 16, .inl g)))  : Ct l G cy B yJ4_length_8abf5 cJ4_length_8abf5 1 (some .int) ({ frames := 1, cells := 0, slots := 0, locals := 20 } : Room) ad f [.ref (ad k0)] (fun v ad' f' => v = some (.int (nI n)) ∧ ad = ad' ∧ f = f') := by
  refine ct_of (by decide +kernel) (Nat.le_of_ble_eq_true rfl) ?_
  intro p e s m args below meth c X hnm
  refine z_lv (lv' := [(0, .ref (ad k0))]) [0] rfl ?_
  refine z_aload_n X 0 dJ4_length_8abf5_0 rfl rfl ?_
  refine z_callSU X (n := 0) (As := []) (rest := []) k0 rfl hb rfl (t5_length l G cy B ad f k0 k1 hne ml n hn g hb hg) q_534 q_794 q_80 q_535 q_25 q_536 (by decide +kernel) ⟨Nat.le_of_ble_eq_true rfl, Nat.le_of_ble_eq_true rfl⟩ rfl rfl (Nat.le_of_ble_eq_true rfl) dJ4_length_8abf5_1 ⟨Nat.le_of_ble_eq_true rfl, Nat.le_of_ble_eq_true rfl⟩ (fun v ad' f' hp had => ?_)
  obtain ⟨rfl, rfl, rfl⟩ := hp
  refine z_st (st' := [.int (nI n)]) rfl ?_
  refine z_iret X (Nat.le_of_ble_eq_true rfl) (Nat.le_of_ble_eq_true rfl) ?_ dJ4_length_8abf5_4
  exact ⟨rfl, rfl, rfl⟩
set_option maxHeartbeats 4000000 in
set_option maxRecDepth 100000 in
theorem t5_ens (l : Launch) (G : va_G) (cy : Nat → ClassId) (B : Nat) (ad : Nat → Nat) (f : zW) (k0 k1 : Nat) (hne : k0 ≠ k1) (ml : Int32) (n : Nat) (hn : n ≤ 16) (g : Nat → Int32) (hb : f k0 = some (.inr (0, [.ref (ad k1), .int (nI 0), .int ml, .int (nI n)]))) (hg : f k1 = some (.inl (cy 3, 16, .inl g))) (qq : Nat) (hq : qq ≤ 16) : Ct l G cy B yJ5_ensureCapacityInternal_d00df cJ5_ensureCapacityInternal_d00df 3 none ({ frames := 0, cells := 0, slots := 0, locals := 0 } : Room) ad f [.ref (ad k0), .int (nI qq)] (fun v ad' f' => v = none ∧ ad = ad' ∧ f = f') := by
  refine ct_of (by decide +kernel) (Nat.le_of_ble_eq_true rfl) ?_
  intro p e s m args below meth c X hnm
  refine z_lv (lv' := [(0, .ref (ad k0)), (1, .int (nI qq))]) [0, 1] rfl ?_
  refine z_aload_n X 0 dJ5_ensureCapacityInternal_d00df_0 rfl rfl ?_
  refine z_get X (v := .ref (ad k1)) k0 0 wa_J4 rfl rfl hb (by decide) q_68 rfl rfl dJ5_ensureCapacityInternal_d00df_1 ?_
  refine z_alen X (v := nI 16) k1 3 rfl hg rfl rfl dJ5_ensureCapacityInternal_d00df_4 ?_
  refine z_aload_n X 0 dJ5_ensureCapacityInternal_d00df_5 rfl rfl ?_
  refine z_get X (v := .int (nI 0)) k0 1 wa_J4 rfl rfl hb (by decide) q_69 rfl rfl dJ5_ensureCapacityInternal_d00df_6 ?_
  refine z_ishr X dJ5_ensureCapacityInternal_d00df_9 ?_
  refine z_top (v' := .int (nI 16)) (by exact congrArg Value.int (by decide)) ?_
  refine z_istore_n X (lv' := [(2, .int (nI 16)), (0, .ref (ad k0)), (1, .int (nI qq))]) dJ5_ensureCapacityInternal_d00df_10 rfl (by decide) rfl ?_
  refine z_iload_n X 2 dJ5_ensureCapacityInternal_d00df_11 rfl rfl ?_
  refine z_iload_n X 0 dJ5_ensureCapacityInternal_d00df_12 rfl rfl ?_
  refine z_isub X dJ5_ensureCapacityInternal_d00df_13 ?_
  refine z_if_le X (tgt := 38) dJ5_ensureCapacityInternal_d00df_14 (by decide) (fun c14 => ?_) (fun c14 => by exfalso; exact c14 (t_cap hq))
  refine z_vret X (Nat.le_of_ble_eq_true rfl) (Nat.le_of_ble_eq_true rfl) ?_ dJ5_ensureCapacityInternal_d00df_38
  exact ⟨rfl, rfl, rfl⟩
set_option maxHeartbeats 4000000 in
set_option maxRecDepth 100000 in
theorem t5_lat (l : Launch) (G : va_G) (cy : Nat → ClassId) (B : Nat) (ad : Nat → Nat) (f : zW) (k0 k1 : Nat) (hne : k0 ≠ k1) (ml : Int32) (n : Nat) (hn : n ≤ 16) (g : Nat → Int32) (hb : f k0 = some (.inr (0, [.ref (ad k1), .int (nI 0), .int ml, .int (nI n)]))) (hg : f k1 = some (.inl (cy 3, 16, .inl g)))  : Ct l G cy B yJ5_isLatin1_aae02 cJ5_isLatin1_aae02 1 (some .boolean) ({ frames := 0, cells := 0, slots := 0, locals := 0 } : Room) ad f [.ref (ad k0)] (fun v ad' f' => v = some (.int (nI 1)) ∧ ad = ad' ∧ f = f') := by
  refine ct_of (by decide +kernel) (Nat.le_of_ble_eq_true rfl) ?_
  intro p e s m args below meth c X hnm
  refine z_lv (lv' := [(0, .ref (ad k0))]) [0] rfl ?_
  refine z_gCS X q_60 dJ5_isLatin1_aae02_0 ?_
  refine z_if_eqN X (tgt := 17) (by omega) dJ5_isLatin1_aae02_3 (by decide) (fun c3 => by exfalso; omega) (fun c3 => ?_)
  refine z_aload_n X 0 dJ5_isLatin1_aae02_6 rfl rfl ?_
  refine z_get X (v := .int (nI 0)) k0 1 wa_J4 rfl rfl hb (by decide) q_69 rfl rfl dJ5_isLatin1_aae02_7 ?_
  refine z_if_neN X (tgt := 17) (by omega) dJ5_isLatin1_aae02_10 (by decide) (fun c10 => by exfalso; omega) (fun c10 => ?_)
  refine z_iconst X (v := nI 1) dJ5_isLatin1_aae02_13 (by decide) ?_
  refine z_goto X (tgt := 18) dJ5_isLatin1_aae02_14 (by decide) ?_
  refine z_zret rfl X (Nat.le_of_ble_eq_true rfl) (Nat.le_of_ble_eq_true rfl) ?_ dJ5_isLatin1_aae02_18
  exact ⟨rfl, rfl, rfl⟩
set_option maxHeartbeats 4000000 in
set_option maxRecDepth 100000 in
theorem j1_can (l : Launch) (G : va_G) (cy : Nat → ClassId) (B : Nat) (ad : Nat → Nat) (f : zW) (ch : Nat) (hc : ch < 128) : Ct l G cy B yJ1_canEncode_fc78d cJ1_canEncode_fc78d 1 (some .boolean) ({ frames := 0, cells := 0, slots := 0, locals := 0 } : Room) ad f [.int (nI ch)] (fun v ad' f' => v = some (.int (nI 1)) ∧ ad = ad' ∧ f = f') := by
  refine ct_of (by decide +kernel) (Nat.le_of_ble_eq_true rfl) ?_
  intro p e s m args below meth c X hnm
  refine z_lv (lv' := [(0, .int (nI ch))]) [0] rfl ?_
  refine z_iload_n X 0 dJ1_canEncode_fc78d_0 rfl rfl ?_
  refine z_sipush X (v := nI 255) dJ1_canEncode_fc78d_1 (by decide) ?_
  refine z_icmp_gtN X (tgt := 11) (by omega) (by omega) dJ1_canEncode_fc78d_4 (by decide) (fun c4 => by exfalso; omega) (fun c4 => ?_)
  refine z_iconst X (v := nI 1) dJ1_canEncode_fc78d_7 (by decide) ?_
  refine z_goto X (tgt := 12) dJ1_canEncode_fc78d_8 (by decide) ?_
  refine z_zret rfl X (Nat.le_of_ble_eq_true rfl) (Nat.le_of_ble_eq_true rfl) ?_ dJ1_canEncode_fc78d_12
  exact ⟨rfl, rfl, rfl⟩
set_option maxHeartbeats 4000000 in
set_option maxRecDepth 100000 in
theorem t5_appC (l : Launch) (G : va_G) (cy : Nat → ClassId) (B : Nat) (ad : Nat → Nat) (f : zW) (k0 k1 : Nat) (hne : k0 ≠ k1) (ml : Int32) (n : Nat) (hn : n ≤ 16) (g : Nat → Int32) (hb : f k0 = some (.inr (0, [.ref (ad k1), .int (nI 0), .int ml, .int (nI n)]))) (hg : f k1 = some (.inl (cy 3, 16, .inl g))) (hn9 : n < 16) (ch : Nat) (hc : ch < 128) : Ct l G cy B yJ5_append_3fe6f cJ5_append_3fe6f 2 (some (.object "java/lang/AbstractStringBuilder")) ({ frames := 1, cells := 0, slots := 0, locals := 22 } : Room) ad f [.ref (ad k0), .int (nI ch)] (fun v ad' f' => v = some (.ref (ad k0)) ∧ ad = ad' ∧ zup (zup f k0 (.inr (0, [.ref (ad k1), .int (nI 0), .int ml, .int (nI (n + 1))]))) k1 (.inl (cy 3, 16, .inl (upd g n (sb_b ch)))) = f') := by
  refine ct_of (by decide +kernel) (Nat.le_of_ble_eq_true rfl) ?_
  intro p e s m args below meth c X hnm
  refine z_lv (lv' := [(0, .ref (ad k0)), (1, .int (nI ch))]) [0, 1] rfl ?_
  refine z_aload_n X 0 dJ5_append_3fe6f_0 rfl rfl ?_
  refine z_aload_n X 0 dJ5_append_3fe6f_1 rfl rfl ?_
  refine z_get X (v := .int (nI n)) k0 3 wa_J4 rfl rfl hb (by decide) q_71 rfl rfl dJ5_append_3fe6f_2 ?_
  refine z_iconst X (v := nI 1) dJ5_append_3fe6f_5 (by decide) ?_
  refine z_iaddN X dJ5_append_3fe6f_6 ?_
  refine z_callU X (n := 1) (As := [.int (nI (n + 1))]) (rest := []) k0 rfl hb rfl (t5_ens l G cy B ad f k0 k1 hne ml n (by omega) g hb hg (n + 1) (by omega)) q_402 q_789 q_0 q_403 q_25 q_404 rfl (by decide +kernel) ⟨Nat.le_of_ble_eq_true rfl, Nat.le_of_ble_eq_true rfl⟩ rfl rfl (Nat.le_of_ble_eq_true rfl) dJ5_append_3fe6f_7 ⟨Nat.le_of_ble_eq_true rfl, Nat.le_of_ble_eq_true rfl⟩ (fun v ad' f' hp had => ?_)
  obtain ⟨rfl, rfl, rfl⟩ := hp
  refine z_st (st' := []) rfl ?_
  refine z_aload_n X 0 dJ5_append_3fe6f_10 rfl rfl ?_
  refine z_callU X (n := 0) (As := []) (rest := []) k0 rfl hb rfl (t5_lat l G cy B ad f k0 k1 hne ml n (by omega) g hb hg) q_430 q_432 q_433 q_431 q_25 q_434 rfl (by decide +kernel) ⟨Nat.le_of_ble_eq_true rfl, Nat.le_of_ble_eq_true rfl⟩ rfl rfl (Nat.le_of_ble_eq_true rfl) dJ5_append_3fe6f_11 ⟨Nat.le_of_ble_eq_true rfl, Nat.le_of_ble_eq_true rfl⟩ (fun v ad' f' hp had => ?_)
  obtain ⟨rfl, rfl, rfl⟩ := hp
  refine z_st (st' := [.int (nI 1)]) rfl ?_
  refine z_if_eqN X (tgt := 45) (by omega) dJ5_append_3fe6f_14 (by decide) (fun c14 => by exfalso; omega) (fun c14 => ?_)
  refine z_iload_n X 1 dJ5_append_3fe6f_17 rfl rfl ?_
  refine z_callS X (n := 1) (As := [.int (nI ch)]) (rest := []) (j1_can l G cy B ad f ch hc) q_455 q_456 q_37 q_457 (by decide +kernel) ⟨Nat.le_of_ble_eq_true rfl, Nat.le_of_ble_eq_true rfl⟩ rfl rfl (Nat.le_of_ble_eq_true rfl) dJ5_append_3fe6f_18 ⟨Nat.le_of_ble_eq_true rfl, Nat.le_of_ble_eq_true rfl⟩ (fun v ad' f' hp had => ?_)
  obtain ⟨rfl, rfl, rfl⟩ := hp
  refine z_st (st' := [.int (nI 1)]) rfl ?_
  refine z_if_eqN X (tgt := 45) (by omega) dJ5_append_3fe6f_21 (by decide) (fun c21 => by exfalso; omega) (fun c21 => ?_)
  refine z_aload_n X 0 dJ5_append_3fe6f_24 rfl rfl ?_
  refine z_get X (v := .ref (ad k1)) k0 0 wa_J4 rfl rfl hb (by decide) q_68 rfl rfl dJ5_append_3fe6f_25 ?_
  refine z_aload_n X 0 dJ5_append_3fe6f_28 rfl rfl ?_
  refine z_dup X dJ5_append_3fe6f_29 rfl ?_
  refine z_get X (v := .int (nI n)) k0 3 wa_J4 rfl rfl hb (by decide) q_71 rfl rfl dJ5_append_3fe6f_30 ?_
  refine z_dup_x1 X dJ5_append_3fe6f_33 rfl rfl ?_
  refine z_iconst X (v := nI 1) dJ5_append_3fe6f_34 (by decide) ?_
  refine z_iaddN X dJ5_append_3fe6f_35 ?_
  refine z_put X (ty := .int) k0 3 wa_J4 tyJ4 tyJ4_ok nmJ4 rfl rfl hb (by decide) q_71 rfl rfl (by decide +kernel) rfl rfl (Nat.le_of_ble_eq_true rfl) dJ5_append_3fe6f_36 ?_
  refine z_iload_n X 1 dJ5_append_3fe6f_39 rfl rfl ?_
  refine z_i2b X (v := sb_b ch) dJ5_append_3fe6f_40 rfl ?_
  refine z_bastB X (n := 16) (g := g) (ch := ch) k1 rfl ((zup_ne hne.symm).trans hg) (by omega) (by decide) (by omega) dJ5_append_3fe6f_41 ?_
  refine z_goto X (tgt := 75) dJ5_append_3fe6f_42 (by decide) ?_
  refine z_aload_n X 0 dJ5_append_3fe6f_75 rfl rfl ?_
  refine z_aret X (Nat.le_of_ble_eq_true rfl) (Nat.le_of_ble_eq_true rfl) ?_ dJ5_append_3fe6f_76
  exact ⟨rfl, rfl, rfl⟩
set_option maxHeartbeats 4000000 in
set_option maxRecDepth 100000 in
theorem t_appC (l : Launch) (G : va_G) (cy : Nat → ClassId) (B : Nat) (ad : Nat → Nat) (f : zW) (k0 k1 : Nat) (hne : k0 ≠ k1) (ml : Int32) (n : Nat) (hn : n ≤ 16) (g : Nat → Int32) (hb : f k0 = some (.inr (0, [.ref (ad k1), .int (nI 0), .int ml, .int (nI n)]))) (hg : f k1 = some (.inl (cy 3, 16, .inl g))) (hn9 : n < 16) (ch : Nat) (hc : ch < 128) : Ct l G cy B yJ4_append_cf468 cJ4_append_cf468 2 (some (.object "java/lang/StringBuilder")) ({ frames := 2, cells := 0, slots := 0, locals := 43 } : Room) ad f [.ref (ad k0), .int (nI ch)] (fun v ad' f' => v = some (.ref (ad k0)) ∧ ad = ad' ∧ zup (zup f k0 (.inr (0, [.ref (ad k1), .int (nI 0), .int ml, .int (nI (n + 1))]))) k1 (.inl (cy 3, 16, .inl (upd g n (sb_b ch)))) = f') := by
  refine ct_of (by decide +kernel) (Nat.le_of_ble_eq_true rfl) ?_
  intro p e s m args below meth c X hnm
  refine z_lv (lv' := [(0, .ref (ad k0)), (1, .int (nI ch))]) [0, 1] rfl ?_
  refine z_aload_n X 0 dJ4_append_cf468_0 rfl rfl ?_
  refine z_iload_n X 1 dJ4_append_cf468_1 rfl rfl ?_
  refine z_callSU X (n := 1) (As := [.int (nI ch)]) (rest := []) k0 rfl hb rfl (t5_appC l G cy B ad f k0 k1 hne ml n hn g hb hg hn9 ch hc) q_452 q_791 q_80 q_453 q_25 q_454 (by decide +kernel) ⟨Nat.le_of_ble_eq_true rfl, Nat.le_of_ble_eq_true rfl⟩ rfl rfl (Nat.le_of_ble_eq_true rfl) dJ4_append_cf468_2 ⟨Nat.le_of_ble_eq_true rfl, Nat.le_of_ble_eq_true rfl⟩ (fun v ad' f' hp had => ?_)
  obtain ⟨rfl, rfl, rfl⟩ := hp
  refine z_st (st' := [.ref (ad k0)]) rfl ?_
  refine z_pop X dJ4_append_cf468_5 rfl ?_
  refine z_aload_n X 0 dJ4_append_cf468_6 rfl rfl ?_
  refine z_aret X (Nat.le_of_ble_eq_true rfl) (Nat.le_of_ble_eq_true rfl) ?_ dJ4_append_cf468_7
  exact ⟨rfl, rfl, rfl⟩
set_option maxHeartbeats 4000000 in
set_option maxRecDepth 100000 in
theorem j6_size (l : Launch) (G : va_G) (cy : Nat → ClassId) (B : Nat) (ad : Nat → Nat) (f : zW) (vv : Nat) (hv : vv < 10 ^ 9) : Ct l G cy B yJ6_stringSize_0f7a4 cJ6_stringSize_0f7a4 4 (some .int) ({ frames := 0, cells := 0, slots := 0, locals := 0 } : Room) ad f [.int (nI vv)] (fun v ad' f' => v = some (.int (nI (sb_dg vv))) ∧ ad = ad' ∧ f = f') := by
  refine ct_of (by decide +kernel) (Nat.le_of_ble_eq_true rfl) ?_
  intro p e s m args below meth c X hnm
  refine z_lv (lv' := [(0, .int (nI vv))]) [0] rfl ?_
  refine z_iconst X (v := nI 1) dJ6_stringSize_0f7a4_0 (by decide) ?_
  refine z_istore_n X (lv' := [(1, .int (nI 1)), (0, .int (nI vv))]) dJ6_stringSize_0f7a4_1 rfl (by decide) rfl ?_
  refine z_iload_n X 1 dJ6_stringSize_0f7a4_2 rfl rfl ?_
  refine z_if_ltN X (tgt := 11) (by omega) dJ6_stringSize_0f7a4_3 (by decide) ?_
  refine z_iconst X (v := nI 0) dJ6_stringSize_0f7a4_6 (by decide) ?_
  refine z_istore_n X (lv' := [(1, .int (nI 0)), (0, .int (nI vv))]) dJ6_stringSize_0f7a4_7 rfl (by decide) rfl ?_
  refine z_iload_n X 1 dJ6_stringSize_0f7a4_8 rfl rfl ?_
  refine z_ineg X dJ6_stringSize_0f7a4_9 ?_
  refine z_top (v' := .int (-nI vv)) (by rfl) ?_
  refine z_istore_n X (lv' := [(0, .int (-nI vv)), (1, .int (nI 0))]) dJ6_stringSize_0f7a4_10 rfl (by decide) rfl ?_
  refine z_bipush X (v := -10) dJ6_stringSize_0f7a4_11 (by decide) ?_
  refine z_top (v' := .int (-nI (10 ^ 1))) (by exact congrArg Value.int (by decide)) ?_
  refine z_istore_n X (lv' := [(2, .int (-nI (10 ^ 1))), (0, .int (-nI vv)), (1, .int (nI 0))]) dJ6_stringSize_0f7a4_13 rfl (by decide) rfl ?_
  refine z_iconst X (v := nI 1) dJ6_stringSize_0f7a4_14 (by decide) ?_
  refine z_istore_n X (lv' := [(3, .int (nI 1)), (2, .int (-nI (10 ^ 1))), (0, .int (-nI vv)), (1, .int (nI 0))]) dJ6_stringSize_0f7a4_15 rfl (by decide) rfl ?_
  refine z_lv (lv' := [(0, .int (-nI vv)), (1, .int (nI 0)), (2, .int (-nI (10 ^ 1))), (3, .int (nI 1))]) [2, 3, 1, 0] rfl ?_
  have lp16 : ∀ (fu16 : Nat) (k : Nat), (1 ≤ k) → (k ≤ 9) → (k = 1 ∨ 10 ^ (k - 1) ≤ vv) → 11 ≤ k + fu16 → Z G B 4 ad f p l e ({ frames := 0, cells := 0, slots := 0, locals := 0 } : Room) s m args below meth c (zEnd G B ad f below args s ({ frames := 0, cells := 0, slots := 0, locals := 0 } : Room) (fun v ad' f' => v = some (.int (nI (sb_dg vv))) ∧ ad = ad' ∧ f = f')) ad f 0 0 16 [(0, .int (-nI vv)), (1, .int (nI 0)), (2, .int (-nI (10 ^ k))), (3, .int (nI k))] [] := by
    intro fu16
    induction fu16 with
    | zero => intro k hk1 hk9 hl hm16; exact absurd hm16 (by omega)
    | succ fu16 ih16 =>
      intro k hk1 hk9 hl hm16
      refine z_iload_n X 3 dJ6_stringSize_0f7a4_16 rfl rfl ?_
      refine z_bipush X (v := nI 10) dJ6_stringSize_0f7a4_17 (by decide) ?_
      refine z_icmp_geN X (tgt := 42) (by omega) (by omega) dJ6_stringSize_0f7a4_19 (by decide) (fun c19 => by exfalso; omega) (fun c19 => ?_)
      refine z_iload_n X 0 dJ6_stringSize_0f7a4_22 rfl rfl ?_
      refine z_iload_n X 2 dJ6_stringSize_0f7a4_23 rfl rfl ?_
      refine z_icmp_le X (tgt := 31) dJ6_stringSize_0f7a4_24 (by decide) (fun c24 => ?_) (fun c24 => ?_)
      · refine z_bipush X (v := nI 10) dJ6_stringSize_0f7a4_31 (by decide) ?_
        refine z_iload_n X 2 dJ6_stringSize_0f7a4_33 rfl rfl ?_
        refine z_imul X dJ6_stringSize_0f7a4_34 ?_
        refine z_top (v' := .int (-nI (10 ^ (k + 1)))) (by rw [t_pw (by omega)]) ?_
        refine z_istore_n X (lv' := [(2, .int (-nI (10 ^ (k + 1)))), (0, .int (-nI vv)), (1, .int (nI 0)), (3, .int (nI k))]) dJ6_stringSize_0f7a4_35 rfl (by decide) rfl ?_
        refine z_iincN X 3 (k := 1) (lv' := [(3, .int (nI (k + 1))), (2, .int (-nI (10 ^ (k + 1)))), (0, .int (-nI vv)), (1, .int (nI 0))]) dJ6_stringSize_0f7a4_36 rfl (by decide) (by decide) rfl ?_
        refine z_goto X (tgt := 16) dJ6_stringSize_0f7a4_39 (by decide) ?_
        refine z_lv (lv' := [(0, .int (-nI vv)), (1, .int (nI 0)), (2, .int (-nI (10 ^ (k + 1)))), (3, .int (nI (k + 1)))]) [2, 3, 1, 0] rfl ?_
        exact ih16 (k + 1) (by omega) (by have h9 := (sb_nle (by omega) (t_pl (by omega))).mp c24; have h8 : k ≠ 9 := (fun h => by subst h; omega); omega) (by right; exact (sb_nle (by omega) (t_pl (by omega))).mp c24) (by omega)
      · refine z_iload_n X 3 dJ6_stringSize_0f7a4_27 rfl rfl ?_
        refine z_iload_n X 1 dJ6_stringSize_0f7a4_28 rfl rfl ?_
        refine z_iaddN X dJ6_stringSize_0f7a4_29 ?_
        refine z_iret X (Nat.le_of_ble_eq_true rfl) (Nat.le_of_ble_eq_true rfl) ?_ dJ6_stringSize_0f7a4_30
        exact ⟨by rw [Nat.add_zero, dg_val hv hk1 hk9 hl (Nat.not_le.mp (fun q9 => c24 ((sb_nle (by omega) (t_pl (by omega))).mpr q9)))], rfl, rfl⟩
  exact lp16 11 1 (by omega) (by omega) (by omega) (by omega)
set_option maxHeartbeats 4000000 in
set_option maxRecDepth 100000 in
theorem j6_chars (l : Launch) (G : va_G) (cy : Nat → ClassId) (B : Nat) (ad : Nat → Nat) (f : zW) (k1 : Nat) (g : Nat → Int32) (hg : f k1 = some (.inl (cy 3, 16, .inl g))) (vv pp : Nat) (hv : vv < 10 ^ 9) (hp9 : pp ≤ 16) (hd : sb_dg vv ≤ pp) : Ct l G cy B yJ6_getChars_ba4f3 cJ6_getChars_ba4f3 7 (some .int) ({ frames := 0, cells := 0, slots := 0, locals := 0 } : Room) ad f [.int (nI vv), .int (nI pp), .ref (ad k1)] (fun v ad' f' => v = some (.int (nI (pp - sb_dg vv))) ∧ ad = ad' ∧ zup f k1 (.inl (cy 3, 16, .inl (putD g vv pp (sb_dg vv)))) = f') := by
  refine ct_of (by decide +kernel) (Nat.le_of_ble_eq_true rfl) ?_
  intro p e s m args below meth c X hnm
  have hd9 := sb_dg_in vv
  refine z_lv (lv' := [(0, .int (nI vv)), (1, .int (nI pp)), (2, .ref (ad k1))]) [0, 1, 2] rfl ?_
  refine z_iload_n X 1 dJ6_getChars_ba4f3_0 rfl rfl ?_
  refine z_istore X (lv' := [(5, .int (nI pp)), (0, .int (nI vv)), (1, .int (nI pp)), (2, .ref (ad k1))]) dJ6_getChars_ba4f3_1 (by decide) rfl ?_
  refine z_iload_n X 1 dJ6_getChars_ba4f3_3 rfl rfl ?_
  refine z_if_geN X (tgt := 11) (by omega) dJ6_getChars_ba4f3_4 (by decide) ?_
  refine z_iconst X (v := nI 0) dJ6_getChars_ba4f3_11 (by decide) ?_
  refine z_istore X (lv' := [(6, .int (nI 0)), (5, .int (nI pp)), (0, .int (nI vv)), (1, .int (nI pp)), (2, .ref (ad k1))]) dJ6_getChars_ba4f3_12 (by decide) rfl ?_
  refine z_iload X 0 dJ6_getChars_ba4f3_14 rfl ?_
  refine z_if_neN X (tgt := 22) (by omega) dJ6_getChars_ba4f3_16 (by decide) (fun c16 => by exfalso; omega) (fun c16 => ?_)
  refine z_iload_n X 2 dJ6_getChars_ba4f3_19 rfl rfl ?_
  refine z_ineg X dJ6_getChars_ba4f3_20 ?_
  refine z_top (v' := .int (-nI vv)) (by rfl) ?_
  refine z_istore_n X (lv' := [(0, .int (-nI vv)), (6, .int (nI 0)), (5, .int (nI pp)), (1, .int (nI pp)), (2, .ref (ad k1))]) dJ6_getChars_ba4f3_21 rfl (by decide) rfl ?_
  refine z_lv (lv' := [(0, .int (-nI vv)), (2, .ref (ad k1)), (5, .int (nI pp)), (6, .int (nI 0))]) [0, 4, 2, 1] rfl ?_
  have lp22 : ∀ (fu22 : Nat) (k : Nat), (k + sb_dg (vv / 10 ^ k) = sb_dg vv) → 17 ≤ k + fu22 → Z G B 7 ad f p l e ({ frames := 0, cells := 0, slots := 0, locals := 0 } : Room) s m args below meth c (zEnd G B ad f below args s ({ frames := 0, cells := 0, slots := 0, locals := 0 } : Room) (fun v ad' f' => v = some (.int (nI (pp - sb_dg vv))) ∧ ad = ad' ∧ zup f k1 (.inl (cy 3, 16, .inl (putD g vv pp (sb_dg vv)))) = f')) ad (zup f k1 (.inl (cy 3, 16, .inl (putD g vv pp k)))) 0 0 22 [(0, .int (-nI (vv / 10 ^ k))), (2, .ref (ad k1)), (5, .int (nI (pp - k))), (6, .int (nI 0))] [] := by
    intro fu22
    induction fu22 with
    | zero => intro k hk hm22; exact absurd hm22 (by omega)
    | succ fu22 ih22 =>
      intro k hk hm22
      refine z_iload_n X 0 dJ6_getChars_ba4f3_22 rfl rfl ?_
      refine z_bipush X (v := -100) dJ6_getChars_ba4f3_23 (by decide) ?_
      refine z_top (v' := .int (-nI 100)) (by exact congrArg Value.int (by decide)) ?_
      refine z_icmp_gt X (tgt := 72) dJ6_getChars_ba4f3_25 (by decide) (fun c25 => ?_) (fun c25 => ?_)
      · have hw : vv / 10 ^ k < 100 := (sb_nlt (by decide) (t_dl hv)).mp c25
        have hdg1 := sb_dg_in (vv / 10 ^ k)
        refine z_aload_n X 1 dJ6_getChars_ba4f3_72 rfl rfl ?_
        refine z_iinc X 2 (v := nI (pp - k - 1)) (lv' := [(5, .int (nI (pp - k - 1))), (0, .int (-nI (vv / 10 ^ k))), (2, .ref (ad k1)), (6, .int (nI 0))]) dJ6_getChars_ba4f3_73 rfl (by exact pk_dec (by omega)) (by decide) rfl ?_
        refine z_iload X 0 dJ6_getChars_ba4f3_76 rfl ?_
        refine z_gDigitOnes X q_511 dJ6_getChars_ba4f3_78 (fun tab78O htab78O => ?_)
        refine z_iload_n X 1 dJ6_getChars_ba4f3_81 rfl rfl ?_
        refine z_ineg X dJ6_getChars_ba4f3_82 ?_
        refine z_top (v' := .int (nI (vv / 10 ^ k))) (by exact congrArg Value.int Int32.neg_neg) ?_
        refine z_tb1 X htab78O (by omega) dJ6_getChars_ba4f3_83 ?_
        refine z_bastB X (n := 16) (g := putD g vv pp k) (ch := (48 + (vv / 10 ^ k) % 10)) k1 rfl zup_same (by omega) (by decide) (by omega) dJ6_getChars_ba4f3_84 ?_
        refine z_f zup_zup ?_
        refine z_iload_n X 1 dJ6_getChars_ba4f3_85 rfl rfl ?_
        refine z_bipush X (v := -9) dJ6_getChars_ba4f3_86 (by decide) ?_
        refine z_top (v' := .int (-nI 9)) (by exact congrArg Value.int (by decide)) ?_
        refine z_icmp_ge X (tgt := 104) dJ6_getChars_ba4f3_88 (by decide) (fun c88 => ?_) (fun c88 => ?_)
        · refine z_iload X 3 dJ6_getChars_ba4f3_104 rfl ?_
          refine z_if_eqN X (tgt := 118) (by omega) dJ6_getChars_ba4f3_106 (by decide) (fun c106 => ?_) (fun c106 => by exfalso; omega)
          refine z_iload X 0 dJ6_getChars_ba4f3_118 rfl ?_
          refine z_iret X (Nat.le_of_ble_eq_true rfl) (Nat.le_of_ble_eq_true rfl) ?_ dJ6_getChars_ba4f3_120
          have h9 : sb_dg vv = k + 1 := by rw [← hk, sb_dg, if_pos (show vv / 10 ^ k < 10 by have := (sb_nle (by decide) (t_dl hv)).mp c88; omega)]
          exact ⟨by rw [h9, show pp - (k + 1) = pp - k - 1 by omega], rfl, by rw [h9, ← putD_1 (by omega), Nat.mod_eq_of_lt (by have := (sb_nle (by decide) (t_dl hv)).mp c88; omega)]⟩
        · have hw2 : 10 ≤ vv / 10 ^ k := Nat.not_lt.mp (fun q9 => c88 ((sb_nle (by decide) (t_dl hv)).mpr (by omega)))
          have hdg2 : sb_dg (vv / 10 ^ k) = 2 := by rw [sb_dg, if_neg (by omega), if_pos hw]
          refine z_aload_n X 2 dJ6_getChars_ba4f3_91 rfl rfl ?_
          refine z_iinc X 0 (v := nI (pp - k - 1 - 1)) (lv' := [(5, .int (nI (pp - k - 1 - 1))), (0, .int (-nI (vv / 10 ^ k))), (2, .ref (ad k1)), (6, .int (nI 0))]) dJ6_getChars_ba4f3_92 rfl (by exact pk_dec (by omega)) (by decide) rfl ?_
          refine z_iload X 0 dJ6_getChars_ba4f3_95 rfl ?_
          refine z_gDigitTens X q_512 dJ6_getChars_ba4f3_97 (fun tab97T htab97T => ?_)
          refine z_iload_n X 1 dJ6_getChars_ba4f3_100 rfl rfl ?_
          refine z_ineg X dJ6_getChars_ba4f3_101 ?_
          refine z_top (v' := .int (nI (vv / 10 ^ k))) (by exact congrArg Value.int Int32.neg_neg) ?_
          refine z_tb2 X htab97T (by omega) dJ6_getChars_ba4f3_102 ?_
          refine z_bastB X (n := 16) (g := upd (putD g vv pp k) (pp - k - 1) (sb_b (48 + (vv / 10 ^ k) % 10))) (ch := (48 + (vv / 10 ^ k) / 10)) k1 rfl zup_same (by omega) (by decide) (by omega) dJ6_getChars_ba4f3_103 ?_
          refine z_f zup_zup ?_
          refine z_iload X 3 dJ6_getChars_ba4f3_104 rfl ?_
          refine z_if_eqN X (tgt := 118) (by omega) dJ6_getChars_ba4f3_106 (by decide) (fun c106 => ?_) (fun c106 => by exfalso; omega)
          refine z_iload X 0 dJ6_getChars_ba4f3_118 rfl ?_
          refine z_iret X (Nat.le_of_ble_eq_true rfl) (Nat.le_of_ble_eq_true rfl) ?_ dJ6_getChars_ba4f3_120
          have h9 : sb_dg vv = k + 2 := by omega
          exact ⟨by rw [h9, show pp - (k + 2) = pp - k - 1 - 1 by omega], rfl, by rw [h9, ← putD_3 (by omega) hw]⟩
      · have hw : 100 ≤ vv / 10 ^ k := Nat.not_lt.mp (fun q9 => c25 ((sb_nlt (by decide) (t_dl hv)).mpr q9))
        have hdg := sb_dg100 hw (t_dl hv)
        have hdg1 := sb_dg_in (vv / 10 ^ k / 100)
        refine z_iload_n X 0 dJ6_getChars_ba4f3_28 rfl rfl ?_
        refine z_bipush X (v := nI 100) dJ6_getChars_ba4f3_29 (by decide) ?_
        refine z_idiv X dJ6_getChars_ba4f3_31 (by decide) ?_
        refine z_top (v' := .int (-nI (vv / 10 ^ k / 100))) (by exact congrArg Value.int (sb_ndiv (t_dl hv))) ?_
        refine z_istore_n X (lv' := [(3, .int (-nI (vv / 10 ^ k / 100))), (0, .int (-nI (vv / 10 ^ k))), (2, .ref (ad k1)), (5, .int (nI (pp - k))), (6, .int (nI 0))]) dJ6_getChars_ba4f3_32 rfl (by decide) rfl ?_
        refine z_iload_n X 0 dJ6_getChars_ba4f3_33 rfl rfl ?_
        refine z_bipush X (v := nI 100) dJ6_getChars_ba4f3_34 (by decide) ?_
        refine z_imul X dJ6_getChars_ba4f3_36 ?_
        refine z_iload_n X 1 dJ6_getChars_ba4f3_37 rfl rfl ?_
        refine z_isub X dJ6_getChars_ba4f3_38 ?_
        refine z_top (v' := .int (nI (vv / 10 ^ k % 100))) (by exact congrArg Value.int (sb_nrem (t_dl hv))) ?_
        refine z_istore X (lv' := [(4, .int (nI (vv / 10 ^ k % 100))), (3, .int (-nI (vv / 10 ^ k / 100))), (0, .int (-nI (vv / 10 ^ k))), (2, .ref (ad k1)), (5, .int (nI (pp - k))), (6, .int (nI 0))]) dJ6_getChars_ba4f3_39 (by decide) rfl ?_
        refine z_iload_n X 1 dJ6_getChars_ba4f3_41 rfl rfl ?_
        refine z_istore_n X (lv' := [(0, .int (-nI (vv / 10 ^ k / 100))), (4, .int (nI (vv / 10 ^ k % 100))), (3, .int (-nI (vv / 10 ^ k / 100))), (2, .ref (ad k1)), (5, .int (nI (pp - k))), (6, .int (nI 0))]) dJ6_getChars_ba4f3_42 rfl (by decide) rfl ?_
        refine z_aload_n X 3 dJ6_getChars_ba4f3_43 rfl rfl ?_
        refine z_iinc X 4 (v := nI (pp - k - 1)) (lv' := [(5, .int (nI (pp - k - 1))), (0, .int (-nI (vv / 10 ^ k / 100))), (4, .int (nI (vv / 10 ^ k % 100))), (3, .int (-nI (vv / 10 ^ k / 100))), (2, .ref (ad k1)), (6, .int (nI 0))]) dJ6_getChars_ba4f3_44 rfl (by exact pk_dec (by omega)) (by decide) rfl ?_
        refine z_iload X 0 dJ6_getChars_ba4f3_47 rfl ?_
        refine z_gDigitOnes X q_511 dJ6_getChars_ba4f3_49 (fun tab49O htab49O => ?_)
        refine z_iload X 2 dJ6_getChars_ba4f3_52 rfl ?_
        refine z_tb1 X htab49O (by omega) dJ6_getChars_ba4f3_54 ?_
        refine z_bastB X (n := 16) (g := putD g vv pp k) (ch := (48 + (vv / 10 ^ k % 100) % 10)) k1 rfl zup_same (by omega) (by decide) (by omega) dJ6_getChars_ba4f3_55 ?_
        refine z_f zup_zup ?_
        refine z_aload_n X 4 dJ6_getChars_ba4f3_56 rfl rfl ?_
        refine z_iinc X 0 (v := nI (pp - k - 1 - 1)) (lv' := [(5, .int (nI (pp - k - 1 - 1))), (0, .int (-nI (vv / 10 ^ k / 100))), (4, .int (nI (vv / 10 ^ k % 100))), (3, .int (-nI (vv / 10 ^ k / 100))), (2, .ref (ad k1)), (6, .int (nI 0))]) dJ6_getChars_ba4f3_57 rfl (by exact pk_dec (by omega)) (by decide) rfl ?_
        refine z_iload X 0 dJ6_getChars_ba4f3_60 rfl ?_
        refine z_gDigitTens X q_512 dJ6_getChars_ba4f3_62 (fun tab62T htab62T => ?_)
        refine z_iload X 2 dJ6_getChars_ba4f3_65 rfl ?_
        refine z_tb2 X htab62T (by omega) dJ6_getChars_ba4f3_67 ?_
        refine z_bastB X (n := 16) (g := upd (putD g vv pp k) (pp - k - 1) (sb_b (48 + (vv / 10 ^ k % 100) % 10))) (ch := (48 + (vv / 10 ^ k % 100) / 10)) k1 rfl zup_same (by omega) (by decide) (by omega) dJ6_getChars_ba4f3_68 ?_
        refine z_f zup_zup ?_
        refine z_goto X (tgt := 22) dJ6_getChars_ba4f3_69 (by decide) ?_
        refine z_lv (lv' := [(0, .int (-nI (vv / 10 ^ k / 100))), (2, .ref (ad k1)), (5, .int (nI (pp - k - 1 - 1))), (6, .int (nI 0))]) [1, 4, 0, 5] rfl ?_
        refine z_lv (lv' := [(0, .int (-nI (vv / 10 ^ (k + 2)))), (2, .ref (ad k1)), (5, .int (nI (pp - (k + 2)))), (6, .int (nI 0))]) [0, 1, 2, 3] (by rw [t_d100, show pp - (k + 2) = pp - k - 1 - 1 by omega]; rfl) ?_
        refine z_f (show zup f k1 (.inl (cy 3, 16, .inl (upd (upd (putD g vv pp k) (pp - k - 1) (sb_b (48 + (vv / 10 ^ k % 100) % 10))) (pp - k - 1 - 1) (sb_b (48 + (vv / 10 ^ k % 100) / 10))))) = zup f k1 (.inl (cy 3, 16, .inl (putD g vv pp (k + 2)))) from by rw [← putD_2 (by omega)]) ?_
        exact ih22 (k + 2) (by rw [t_d100]; omega) (by omega)
  refine z_lv (lv' := [(0, .int (-nI (vv / 10 ^ 0))), (2, .ref (ad k1)), (5, .int (nI (pp - 0))), (6, .int (nI 0))]) [0, 1, 2, 3] (by rw [Nat.pow_zero, Nat.div_one]; rfl) ?_
  refine z_f (show f = zup f k1 (.inl (cy 3, 16, .inl (putD g vv pp 0))) from by rw [putD_0]; exact (zup_id hg).symm) ?_
  exact lp22 17 0 (by rw [Nat.pow_zero, Nat.div_one]; omega) (by omega)
set_option maxHeartbeats 4000000 in
set_option maxRecDepth 100000 in
theorem t5_appI (l : Launch) (G : va_G) (cy : Nat → ClassId) (B : Nat) (ad : Nat → Nat) (f : zW) (k0 k1 : Nat) (hne : k0 ≠ k1) (ml : Int32) (n : Nat) (hn : n ≤ 16) (g : Nat → Int32) (hb : f k0 = some (.inr (0, [.ref (ad k1), .int (nI 0), .int ml, .int (nI n)]))) (hg : f k1 = some (.inl (cy 3, 16, .inl g))) (vv : Nat) (hv : vv < 10 ^ 9) (hd : n + sb_dg vv ≤ 16) : Ct l G cy B yJ5_append_c97b9 cJ5_append_c97b9 4 (some (.object "java/lang/AbstractStringBuilder")) ({ frames := 1, cells := 0, slots := 0, locals := 26 } : Room) ad f [.ref (ad k0), .int (nI vv)] (fun v ad' f' => v = some (.ref (ad k0)) ∧ ad = ad' ∧ zup (zup f k1 (.inl (cy 3, 16, .inl (putD g vv (n + sb_dg vv) (sb_dg vv))))) k0 (.inr (0, [.ref (ad k1), .int (nI 0), .int ml, .int (nI (n + sb_dg vv))])) = f') := by
  refine ct_of (by decide +kernel) (Nat.le_of_ble_eq_true rfl) ?_
  intro p e s m args below meth c X hnm
  have hd9 := sb_dg_in vv
  refine z_lv (lv' := [(0, .ref (ad k0)), (1, .int (nI vv))]) [0, 1] rfl ?_
  refine z_aload_n X 0 dJ5_append_c97b9_0 rfl rfl ?_
  refine z_get X (v := .int (nI n)) k0 3 wa_J4 rfl rfl hb (by decide) q_71 rfl rfl dJ5_append_c97b9_1 ?_
  refine z_istore_n X (lv' := [(2, .int (nI n)), (0, .ref (ad k0)), (1, .int (nI vv))]) dJ5_append_c97b9_4 rfl (by decide) rfl ?_
  refine z_iload_n X 0 dJ5_append_c97b9_5 rfl rfl ?_
  refine z_iload_n X 2 dJ5_append_c97b9_6 rfl rfl ?_
  refine z_callS X (n := 1) (As := [.int (nI vv)]) (rest := [.int (nI n)]) (j6_size l G cy B ad f vv hv) q_505 q_506 q_39 q_507 (by decide +kernel) ⟨Nat.le_of_ble_eq_true rfl, Nat.le_of_ble_eq_true rfl⟩ rfl rfl (Nat.le_of_ble_eq_true rfl) dJ5_append_c97b9_7 ⟨Nat.le_of_ble_eq_true rfl, Nat.le_of_ble_eq_true rfl⟩ (fun v ad' f' hp had => ?_)
  obtain ⟨rfl, rfl, rfl⟩ := hp
  refine z_st (st' := [.int (nI (sb_dg vv)), .int (nI n)]) rfl ?_
  refine z_iaddN X dJ5_append_c97b9_10 ?_
  refine z_istore_n X (lv' := [(3, .int (nI (n + (sb_dg vv)))), (2, .int (nI n)), (0, .ref (ad k0)), (1, .int (nI vv))]) dJ5_append_c97b9_11 rfl (by decide) rfl ?_
  refine z_aload_n X 2 dJ5_append_c97b9_12 rfl rfl ?_
  refine z_iload_n X 0 dJ5_append_c97b9_13 rfl rfl ?_
  refine z_callU X (n := 1) (As := [.int (nI (n + (sb_dg vv)))]) (rest := []) k0 rfl hb rfl (t5_ens l G cy B ad f k0 k1 hne ml n (by omega) g hb hg (n + sb_dg vv) hd) q_402 q_789 q_0 q_403 q_25 q_404 rfl (by decide +kernel) ⟨Nat.le_of_ble_eq_true rfl, Nat.le_of_ble_eq_true rfl⟩ rfl rfl (Nat.le_of_ble_eq_true rfl) dJ5_append_c97b9_14 ⟨Nat.le_of_ble_eq_true rfl, Nat.le_of_ble_eq_true rfl⟩ (fun v ad' f' hp had => ?_)
  obtain ⟨rfl, rfl, rfl⟩ := hp
  refine z_st (st' := []) rfl ?_
  refine z_aload_n X 2 dJ5_append_c97b9_17 rfl rfl ?_
  refine z_callU X (n := 0) (As := []) (rest := []) k0 rfl hb rfl (t5_lat l G cy B ad f k0 k1 hne ml n (by omega) g hb hg) q_430 q_432 q_433 q_431 q_25 q_434 rfl (by decide +kernel) ⟨Nat.le_of_ble_eq_true rfl, Nat.le_of_ble_eq_true rfl⟩ rfl rfl (Nat.le_of_ble_eq_true rfl) dJ5_append_c97b9_18 ⟨Nat.le_of_ble_eq_true rfl, Nat.le_of_ble_eq_true rfl⟩ (fun v ad' f' hp had => ?_)
  obtain ⟨rfl, rfl, rfl⟩ := hp
  refine z_st (st' := [.int (nI 1)]) rfl ?_
  refine z_if_eqN X (tgt := 37) (by omega) dJ5_append_c97b9_21 (by decide) (fun c21 => by exfalso; omega) (fun c21 => ?_)
  refine z_iload_n X 3 dJ5_append_c97b9_24 rfl rfl ?_
  refine z_iload_n X 0 dJ5_append_c97b9_25 rfl rfl ?_
  refine z_aload_n X 2 dJ5_append_c97b9_26 rfl rfl ?_
  refine z_get X (v := .ref (ad k1)) k0 0 wa_J4 rfl rfl hb (by decide) q_68 rfl rfl dJ5_append_c97b9_27 ?_
  refine z_callS X (n := 3) (As := [.int (nI vv), .int (nI (n + (sb_dg vv))), .ref (ad k1)]) (rest := []) (j6_chars l G cy B ad f k1 g hg vv (n + sb_dg vv) hv hd (by omega)) q_508 q_509 q_39 q_510 (by decide +kernel) ⟨Nat.le_of_ble_eq_true rfl, Nat.le_of_ble_eq_true rfl⟩ rfl rfl (Nat.le_of_ble_eq_true rfl) dJ5_append_c97b9_30 ⟨Nat.le_of_ble_eq_true rfl, Nat.le_of_ble_eq_true rfl⟩ (fun v ad' f' hp had => ?_)
  obtain ⟨rfl, rfl, rfl⟩ := hp
  refine z_st (st' := [.int (nI (n + sb_dg vv - sb_dg vv))]) rfl ?_
  refine z_pop X dJ5_append_c97b9_33 rfl ?_
  refine z_goto X (tgt := 48) dJ5_append_c97b9_34 (by decide) ?_
  refine z_aload_n X 2 dJ5_append_c97b9_48 rfl rfl ?_
  refine z_iload_n X 0 dJ5_append_c97b9_49 rfl rfl ?_
  refine z_put X (ty := .int) k0 3 wa_J4 tyJ4 tyJ4_ok nmJ4 rfl rfl ((zup_ne hne).trans hb) (by decide) q_71 rfl rfl (by decide +kernel) rfl rfl (Nat.le_of_ble_eq_true rfl) dJ5_append_c97b9_50 ?_
  refine z_aload_n X 2 dJ5_append_c97b9_53 rfl rfl ?_
  refine z_aret X (Nat.le_of_ble_eq_true rfl) (Nat.le_of_ble_eq_true rfl) ?_ dJ5_append_c97b9_54
  exact ⟨rfl, rfl, rfl⟩
set_option maxHeartbeats 4000000 in
set_option maxRecDepth 100000 in
theorem t_appI (l : Launch) (G : va_G) (cy : Nat → ClassId) (B : Nat) (ad : Nat → Nat) (f : zW) (k0 k1 : Nat) (hne : k0 ≠ k1) (ml : Int32) (n : Nat) (hn : n ≤ 16) (g : Nat → Int32) (hb : f k0 = some (.inr (0, [.ref (ad k1), .int (nI 0), .int ml, .int (nI n)]))) (hg : f k1 = some (.inl (cy 3, 16, .inl g))) (vv : Nat) (hv : vv < 10 ^ 9) (hd : n + sb_dg vv ≤ 16) : Ct l G cy B yJ4_append_bf812 cJ4_append_bf812 2 (some (.object "java/lang/StringBuilder")) ({ frames := 2, cells := 0, slots := 0, locals := 49 } : Room) ad f [.ref (ad k0), .int (nI vv)] (fun v ad' f' => v = some (.ref (ad k0)) ∧ ad = ad' ∧ zup (zup f k1 (.inl (cy 3, 16, .inl (putD g vv (n + sb_dg vv) (sb_dg vv))))) k0 (.inr (0, [.ref (ad k1), .int (nI 0), .int ml, .int (nI (n + sb_dg vv))])) = f') := by
  refine ct_of (by decide +kernel) (Nat.le_of_ble_eq_true rfl) ?_
  intro p e s m args below meth c X hnm
  refine z_lv (lv' := [(0, .ref (ad k0)), (1, .int (nI vv))]) [0, 1] rfl ?_
  refine z_aload_n X 0 dJ4_append_bf812_0 rfl rfl ?_
  refine z_iload_n X 1 dJ4_append_bf812_1 rfl rfl ?_
  refine z_callSU X (n := 1) (As := [.int (nI vv)]) (rest := []) k0 rfl hb rfl (t5_appI l G cy B ad f k0 k1 hne ml n hn g hb hg vv hv hd) q_502 q_793 q_80 q_503 q_25 q_504 (by decide +kernel) ⟨Nat.le_of_ble_eq_true rfl, Nat.le_of_ble_eq_true rfl⟩ rfl rfl (Nat.le_of_ble_eq_true rfl) dJ4_append_bf812_2 ⟨Nat.le_of_ble_eq_true rfl, Nat.le_of_ble_eq_true rfl⟩ (fun v ad' f' hp had => ?_)
  obtain ⟨rfl, rfl, rfl⟩ := hp
  refine z_st (st' := [.ref (ad k0)]) rfl ?_
  refine z_pop X dJ4_append_bf812_5 rfl ?_
  refine z_aload_n X 0 dJ4_append_bf812_6 rfl rfl ?_
  refine z_aret X (Nat.le_of_ble_eq_true rfl) (Nat.le_of_ble_eq_true rfl) ?_ dJ4_append_bf812_7
  exact ⟨rfl, rfl, rfl⟩
set_option maxHeartbeats 4000000 in
set_option maxRecDepth 100000 in
theorem t5_set (l : Launch) (G : va_G) (cy : Nat → ClassId) (B : Nat) (ad : Nat → Nat) (f : zW) (k0 k1 : Nat) (hne : k0 ≠ k1) (ml : Int32) (n : Nat) (hn : n ≤ 16) (g : Nat → Int32) (hb : f k0 = some (.inr (0, [.ref (ad k1), .int (nI 0), .int ml, .int (nI n)]))) (hg : f k1 = some (.inl (cy 3, 16, .inl g)))  : Ct l G cy B yJ5_setLength_d00df cJ5_setLength_d00df 2 none ({ frames := 1, cells := 0, slots := 0, locals := 22 } : Room) ad f [.ref (ad k0), .int (nI 0)] (fun v ad' f' => v = none ∧ ad = ad' ∧ zup f k0 (.inr (0, [.ref (ad k1), .int (nI 0), .int (if n = 0 then ml else nI 1), .int (nI (0))])) = f') := by
  refine ct_of (by decide +kernel) (Nat.le_of_ble_eq_true rfl) ?_
  intro p e s m args below meth c X hnm
  refine z_lv (lv' := [(0, .ref (ad k0)), (1, .int (nI 0))]) [0, 1] rfl ?_
  refine z_iload_n X 1 dJ5_setLength_d00df_0 rfl rfl ?_
  refine z_if_geN X (tgt := 13) (by omega) dJ5_setLength_d00df_1 (by decide) ?_
  refine z_aload_n X 0 dJ5_setLength_d00df_13 rfl rfl ?_
  refine z_iload_n X 1 dJ5_setLength_d00df_14 rfl rfl ?_
  refine z_callU X (n := 1) (As := [.int (nI 0)]) (rest := []) k0 rfl hb rfl (t5_ens l G cy B ad f k0 k1 hne ml n (by omega) g hb hg 0 (by omega)) q_402 q_789 q_0 q_403 q_25 q_404 rfl (by decide +kernel) ⟨Nat.le_of_ble_eq_true rfl, Nat.le_of_ble_eq_true rfl⟩ rfl rfl (Nat.le_of_ble_eq_true rfl) dJ5_setLength_d00df_15 ⟨Nat.le_of_ble_eq_true rfl, Nat.le_of_ble_eq_true rfl⟩ (fun v ad' f' hp had => ?_)
  obtain ⟨rfl, rfl, rfl⟩ := hp
  refine z_st (st' := []) rfl ?_
  refine z_aload_n X 0 dJ5_setLength_d00df_18 rfl rfl ?_
  refine z_get X (v := .int (nI n)) k0 3 wa_J4 rfl rfl hb (by decide) q_71 rfl rfl dJ5_setLength_d00df_19 ?_
  refine z_iload_n X 1 dJ5_setLength_d00df_22 rfl rfl ?_
  refine z_icmp_geN X (tgt := 63) (by omega) (by omega) dJ5_setLength_d00df_23 (by decide) (fun c23 => ?_) (fun c23 => by exfalso; omega)
  refine z_aload_n X 0 dJ5_setLength_d00df_63 rfl rfl ?_
  refine z_get X (v := .int (nI n)) k0 3 wa_J4 rfl rfl hb (by decide) q_71 rfl rfl dJ5_setLength_d00df_64 ?_
  refine z_iload_n X 1 dJ5_setLength_d00df_67 rfl rfl ?_
  refine z_icmp_leN X (tgt := 76) (by omega) (by omega) dJ5_setLength_d00df_68 (by decide) (fun c68 => ?_) (fun c68 => ?_)
  · refine z_aload_n X 0 dJ5_setLength_d00df_76 rfl rfl ?_
    refine z_iload_n X 1 dJ5_setLength_d00df_77 rfl rfl ?_
    refine z_put X (ty := .int) k0 3 wa_J4 tyJ4 tyJ4_ok nmJ4 rfl rfl hb (by decide) q_71 rfl rfl (by decide +kernel) rfl rfl (Nat.le_of_ble_eq_true rfl) dJ5_setLength_d00df_78 ?_
    refine z_vret X (Nat.le_of_ble_eq_true rfl) (Nat.le_of_ble_eq_true rfl) ?_ dJ5_setLength_d00df_81
    exact ⟨rfl, rfl, by rw [if_pos (by omega)]; rfl⟩
  · refine z_aload_n X 0 dJ5_setLength_d00df_71 rfl rfl ?_
    refine z_iconst X (v := nI 1) dJ5_setLength_d00df_72 (by decide) ?_
    refine z_put X (ty := .boolean) k0 2 wa_J4 tyJ4 tyJ4_ok nmJ4 rfl rfl hb (by decide) q_70 rfl rfl (by decide +kernel) (by decide) (by decide) (Nat.le_of_ble_eq_true rfl) dJ5_setLength_d00df_73 ?_
    refine z_aload_n X 0 dJ5_setLength_d00df_76 rfl rfl ?_
    refine z_iload_n X 1 dJ5_setLength_d00df_77 rfl rfl ?_
    refine z_put X (ty := .int) k0 3 wa_J4 tyJ4 tyJ4_ok nmJ4 rfl rfl zup_same (by decide) q_71 rfl rfl (by decide +kernel) rfl rfl (Nat.le_of_ble_eq_true rfl) dJ5_setLength_d00df_78 ?_
    refine z_f zup_zup ?_
    refine z_vret X (Nat.le_of_ble_eq_true rfl) (Nat.le_of_ble_eq_true rfl) ?_ dJ5_setLength_d00df_81
    exact ⟨rfl, rfl, by rw [if_neg (by omega)]; rfl⟩
set_option maxHeartbeats 4000000 in
set_option maxRecDepth 100000 in
theorem t_setL (l : Launch) (G : va_G) (cy : Nat → ClassId) (B : Nat) (ad : Nat → Nat) (f : zW) (k0 k1 : Nat) (hne : k0 ≠ k1) (ml : Int32) (n : Nat) (hn : n ≤ 16) (g : Nat → Int32) (hb : f k0 = some (.inr (0, [.ref (ad k1), .int (nI 0), .int ml, .int (nI n)]))) (hg : f k1 = some (.inl (cy 3, 16, .inl g)))  : Ct l G cy B yJ4_setLength_d00df cJ4_setLength_d00df 2 none ({ frames := 2, cells := 0, slots := 0, locals := 43 } : Room) ad f [.ref (ad k0), .int (nI 0)] (fun v ad' f' => v = none ∧ ad = ad' ∧ zup f k0 (.inr (0, [.ref (ad k1), .int (nI 0), .int (if n = 0 then ml else nI 1), .int (nI (0))])) = f') := by
  refine ct_of (by decide +kernel) (Nat.le_of_ble_eq_true rfl) ?_
  intro p e s m args below meth c X hnm
  refine z_lv (lv' := [(0, .ref (ad k0)), (1, .int (nI 0))]) [0, 1] rfl ?_
  refine z_aload_n X 0 dJ4_setLength_d00df_0 rfl rfl ?_
  refine z_iload_n X 1 dJ4_setLength_d00df_1 rfl rfl ?_
  refine z_callSU X (n := 1) (As := [.int (nI 0)]) (rest := []) k0 rfl hb rfl (t5_set l G cy B ad f k0 k1 hne ml n hn g hb hg) q_399 q_788 q_80 q_400 q_25 q_401 (by decide +kernel) ⟨Nat.le_of_ble_eq_true rfl, Nat.le_of_ble_eq_true rfl⟩ rfl rfl (Nat.le_of_ble_eq_true rfl) dJ4_setLength_d00df_2 ⟨Nat.le_of_ble_eq_true rfl, Nat.le_of_ble_eq_true rfl⟩ (fun v ad' f' hp had => ?_)
  obtain ⟨rfl, rfl, rfl⟩ := hp
  refine z_st (st' := []) rfl ?_
  refine z_vret X (Nat.le_of_ble_eq_true rfl) (Nat.le_of_ble_eq_true rfl) ?_ dJ4_setLength_d00df_5
  exact ⟨rfl, rfl, rfl⟩
set_option maxHeartbeats 4000000 in
set_option maxRecDepth 100000 in
theorem j3_checkN (l : Launch) (G : va_G) (cy : Nat → ClassId) (B : Nat) (ad : Nat → Nat) (f : zW) (i nn : Nat) (hi : i < nn) (hn : nn ≤ 16) : Ct l G cy B yJ3_checkIndex_8e157 cJ3_checkIndex_8e157 3 (some .int) ({ frames := 0, cells := 0, slots := 0, locals := 0 } : Room) ad f [.int (nI i), .int (nI nn), .null] (fun v ad' f' => v = some (.int (nI i)) ∧ ad = ad' ∧ f = f') := by
  refine ct_of (by decide +kernel) (Nat.le_of_ble_eq_true rfl) ?_
  intro p e s m args below meth c X hnm
  refine z_lv (lv' := [(0, .int (nI i)), (1, .int (nI nn)), (2, .null)]) [0, 1, 2] rfl ?_
  refine z_iload_n X 0 dJ3_checkIndex_8e157_0 rfl rfl ?_
  refine z_if_ltN X (tgt := 9) (by omega) dJ3_checkIndex_8e157_1 (by decide) ?_
  refine z_iload_n X 0 dJ3_checkIndex_8e157_4 rfl rfl ?_
  refine z_iload_n X 1 dJ3_checkIndex_8e157_5 rfl rfl ?_
  refine z_icmp_ltN X (tgt := 16) (by omega) (by omega) dJ3_checkIndex_8e157_6 (by decide) (fun c6 => ?_) (fun c6 => by exfalso; omega)
  refine z_iload_n X 0 dJ3_checkIndex_8e157_16 rfl rfl ?_
  refine z_iret X (Nat.le_of_ble_eq_true rfl) (Nat.le_of_ble_eq_true rfl) ?_ dJ3_checkIndex_8e157_17
  exact ⟨rfl, rfl, rfl⟩
set_option maxHeartbeats 4000000 in
set_option maxRecDepth 100000 in
theorem j3_checkR (l : Launch) (G : va_G) (cy : Nat → ClassId) (B : Nat) (ad : Nat → Nat) (f : zW) (i nn : Nat) (hi : i < nn) (hn : nn ≤ 16) (t9 : Nat) : Ct l G cy B yJ3_checkIndex_8e157 cJ3_checkIndex_8e157 3 (some .int) ({ frames := 0, cells := 0, slots := 0, locals := 0 } : Room) ad f [.int (nI i), .int (nI nn), .ref t9] (fun v ad' f' => v = some (.int (nI i)) ∧ ad = ad' ∧ f = f') := by
  refine ct_of (by decide +kernel) (Nat.le_of_ble_eq_true rfl) ?_
  intro p e s m args below meth c X hnm
  refine z_lv (lv' := [(0, .int (nI i)), (1, .int (nI nn)), (2, .ref t9)]) [0, 1, 2] rfl ?_
  refine z_iload_n X 0 dJ3_checkIndex_8e157_0 rfl rfl ?_
  refine z_if_ltN X (tgt := 9) (by omega) dJ3_checkIndex_8e157_1 (by decide) ?_
  refine z_iload_n X 0 dJ3_checkIndex_8e157_4 rfl rfl ?_
  refine z_iload_n X 1 dJ3_checkIndex_8e157_5 rfl rfl ?_
  refine z_icmp_ltN X (tgt := 16) (by omega) (by omega) dJ3_checkIndex_8e157_6 (by decide) (fun c6 => ?_) (fun c6 => by exfalso; omega)
  refine z_iload_n X 0 dJ3_checkIndex_8e157_16 rfl rfl ?_
  refine z_iret X (Nat.le_of_ble_eq_true rfl) (Nat.le_of_ble_eq_true rfl) ?_ dJ3_checkIndex_8e157_17
  exact ⟨rfl, rfl, rfl⟩
set_option maxHeartbeats 4000000 in
set_option maxRecDepth 100000 in
theorem j0_check (l : Launch) (G : va_G) (cy : Nat → ClassId) (B : Nat) (ad : Nat → Nat) (f : zW) (i nn : Nat) (hi : i < nn) (hn : nn ≤ 16) : Ct l G cy B yJ0_checkIndex_df160 cJ0_checkIndex_df160 2 none ({ frames := 1, cells := 0, slots := 0, locals := 22 } : Room) ad f [.int (nI i), .int (nI nn)] (fun v ad' f' => v = none ∧ ad = ad' ∧ f = f') := by
  refine ct_of (by decide +kernel) (Nat.le_of_ble_eq_true rfl) ?_
  intro p e s m args below meth c X hnm
  refine z_lv (lv' := [(0, .int (nI i)), (1, .int (nI nn))]) [0, 1] rfl ?_
  refine z_iload_n X 0 dJ0_checkIndex_df160_0 rfl rfl ?_
  refine z_iload_n X 1 dJ0_checkIndex_df160_1 rfl rfl ?_
  refine z_gQ X q_476 dJ0_checkIndex_df160_2 (fun o9 => ?_)
  rcases o9 with _ | t9
  · refine z_callS X (n := 3) (As := [.int (nI i), .int (nI nn), .null]) (rest := []) (j3_checkN l G cy B ad f i nn hi hn) q_495 q_496 q_38 q_497 (by decide +kernel) ⟨Nat.le_of_ble_eq_true rfl, Nat.le_of_ble_eq_true rfl⟩ rfl rfl (Nat.le_of_ble_eq_true rfl) dJ0_checkIndex_df160_5 ⟨Nat.le_of_ble_eq_true rfl, Nat.le_of_ble_eq_true rfl⟩ (fun v ad' f' hp had => ?_)
    obtain ⟨rfl, rfl, rfl⟩ := hp
    refine z_st (st' := [.int (nI i)]) rfl ?_
    refine z_pop X dJ0_checkIndex_df160_8 rfl ?_
    refine z_vret X (Nat.le_of_ble_eq_true rfl) (Nat.le_of_ble_eq_true rfl) ?_ dJ0_checkIndex_df160_9
    exact ⟨rfl, rfl, rfl⟩
  · refine z_callS X (n := 3) (As := [.int (nI i), .int (nI nn), .ref t9]) (rest := []) (j3_checkR l G cy B ad f i nn hi hn t9) q_495 q_496 q_38 q_497 (by decide +kernel) ⟨Nat.le_of_ble_eq_true rfl, Nat.le_of_ble_eq_true rfl⟩ rfl rfl (Nat.le_of_ble_eq_true rfl) dJ0_checkIndex_df160_5 ⟨Nat.le_of_ble_eq_true rfl, Nat.le_of_ble_eq_true rfl⟩ (fun v ad' f' hp had => ?_)
    obtain ⟨rfl, rfl, rfl⟩ := hp
    refine z_st (st' := [.int (nI i)]) rfl ?_
    refine z_pop X dJ0_checkIndex_df160_8 rfl ?_
    refine z_vret X (Nat.le_of_ble_eq_true rfl) (Nat.le_of_ble_eq_true rfl) ?_ dJ0_checkIndex_df160_9
    exact ⟨rfl, rfl, rfl⟩
set_option maxHeartbeats 4000000 in
set_option maxRecDepth 100000 in
theorem t5_at (l : Launch) (G : va_G) (cy : Nat → ClassId) (B : Nat) (ad : Nat → Nat) (f : zW) (k0 k1 : Nat) (hne : k0 ≠ k1) (ml : Int32) (n : Nat) (hn : n ≤ 16) (g : Nat → Int32) (hb : f k0 = some (.inr (0, [.ref (ad k1), .int (nI 0), .int ml, .int (nI n)]))) (hg : f k1 = some (.inl (cy 3, 16, .inl g))) (i : Nat) (hi : i < n) (ch : Nat) (hc : ch < 128) (hx : g i = sb_b ch) : Ct l G cy B yJ5_charAt_5068e cJ5_charAt_5068e 5 (some .char) ({ frames := 2, cells := 0, slots := 0, locals := 43 } : Room) ad f [.ref (ad k0), .int (nI i)] (fun v ad' f' => v = some (.int (nI ch)) ∧ ad = ad' ∧ f = f') := by
  refine ct_of (by decide +kernel) (Nat.le_of_ble_eq_true rfl) ?_
  intro p e s m args below meth c X hnm
  refine z_lv (lv' := [(0, .ref (ad k0)), (1, .int (nI i))]) [0, 1] rfl ?_
  refine z_aload_n X 0 dJ5_charAt_5068e_0 rfl rfl ?_
  refine z_get X (v := .int (nI 0)) k0 1 wa_J4 rfl rfl hb (by decide) q_69 rfl rfl dJ5_charAt_5068e_1 ?_
  refine z_istore_n X (lv' := [(2, .int (nI 0)), (0, .ref (ad k0)), (1, .int (nI i))]) dJ5_charAt_5068e_4 rfl (by decide) rfl ?_
  refine z_aload_n X 1 dJ5_charAt_5068e_5 rfl rfl ?_
  refine z_get X (v := .ref (ad k1)) k0 0 wa_J4 rfl rfl hb (by decide) q_68 rfl rfl dJ5_charAt_5068e_6 ?_
  refine z_astore_n X (lv' := [(3, .ref (ad k1)), (2, .int (nI 0)), (0, .ref (ad k0)), (1, .int (nI i))]) dJ5_charAt_5068e_9 rfl (by decide) rfl ?_
  refine z_aload_n X 2 dJ5_charAt_5068e_10 rfl rfl ?_
  refine z_get X (v := .int (nI n)) k0 3 wa_J4 rfl rfl hb (by decide) q_71 rfl rfl dJ5_charAt_5068e_11 ?_
  refine z_aload_n X 0 dJ5_charAt_5068e_14 rfl rfl ?_
  refine z_alen X (v := nI 16) k1 3 rfl hg rfl rfl dJ5_charAt_5068e_15 ?_
  refine z_iload_n X 1 dJ5_charAt_5068e_16 rfl rfl ?_
  refine z_ishr X dJ5_charAt_5068e_17 ?_
  refine z_top (v' := .int (nI 16)) (by exact congrArg Value.int (by decide)) ?_
  refine z_mmin X q_544 q_319 q_31 q_320 (Nat.le_of_ble_eq_true rfl) (Nat.le_of_ble_eq_true rfl) (Nat.le_of_ble_eq_true rfl) (Nat.le_of_ble_eq_true rfl) dJ5_charAt_5068e_18 ?_
  refine z_top (v' := .int (nI n)) (by exact congrArg Value.int (t_min hn)) ?_
  refine z_istore X (lv' := [(4, .int (nI n)), (3, .ref (ad k1)), (2, .int (nI 0)), (0, .ref (ad k0)), (1, .int (nI i))]) dJ5_charAt_5068e_21 (by decide) rfl ?_
  refine z_iload_n X 4 dJ5_charAt_5068e_23 rfl rfl ?_
  refine z_iload X 0 dJ5_charAt_5068e_24 rfl ?_
  refine z_callS X (n := 2) (As := [.int (nI i), .int (nI n)]) (rest := []) (j0_check l G cy B ad f i n hi hn) q_545 q_493 q_27 q_494 (by decide +kernel) ⟨Nat.le_of_ble_eq_true rfl, Nat.le_of_ble_eq_true rfl⟩ rfl rfl (Nat.le_of_ble_eq_true rfl) dJ5_charAt_5068e_26 ⟨Nat.le_of_ble_eq_true rfl, Nat.le_of_ble_eq_true rfl⟩ (fun v ad' f' hp had => ?_)
  obtain ⟨rfl, rfl, rfl⟩ := hp
  refine z_st (st' := []) rfl ?_
  refine z_iload_n X 2 dJ5_charAt_5068e_29 rfl rfl ?_
  refine z_if_neN X (tgt := 42) (by omega) dJ5_charAt_5068e_30 (by decide) (fun c30 => by exfalso; omega) (fun c30 => ?_)
  refine z_aload_n X 1 dJ5_charAt_5068e_33 rfl rfl ?_
  refine z_iload_n X 4 dJ5_charAt_5068e_34 rfl rfl ?_
  refine z_baldN X (n := 16) (g := g) k1 rfl hg (by omega) (by decide) dJ5_charAt_5068e_35 ?_
  refine z_top (v' := .int (sb_b ch)) (by rw [hx]) ?_
  refine z_sipush X (v := nI 255) dJ5_charAt_5068e_36 (by decide) ?_
  refine z_iand X dJ5_charAt_5068e_39 ?_
  refine z_i2c X dJ5_charAt_5068e_40 ?_
  refine z_top (v' := .int (nI ch)) (by exact congrArg Value.int (by rw [show sb_b ch &&& nI 255 = nI ch from (sb_byte ch (by omega)).1]; exact (sb_byte ch (by omega)).2.1)) ?_
  refine z_zret (t_chr hc) X (Nat.le_of_ble_eq_true rfl) (Nat.le_of_ble_eq_true rfl) ?_ dJ5_charAt_5068e_41
  exact ⟨rfl, rfl, rfl⟩
set_option maxHeartbeats 4000000 in
set_option maxRecDepth 100000 in
theorem t_at (l : Launch) (G : va_G) (cy : Nat → ClassId) (B : Nat) (ad : Nat → Nat) (f : zW) (k0 k1 : Nat) (hne : k0 ≠ k1) (ml : Int32) (n : Nat) (hn : n ≤ 16) (g : Nat → Int32) (hb : f k0 = some (.inr (0, [.ref (ad k1), .int (nI 0), .int ml, .int (nI n)]))) (hg : f k1 = some (.inl (cy 3, 16, .inl g))) (i : Nat) (hi : i < n) (ch : Nat) (hc : ch < 128) (hx : g i = sb_b ch) : Ct l G cy B yJ4_charAt_5068e cJ4_charAt_5068e 2 (some .char) ({ frames := 3, cells := 0, slots := 0, locals := 67 } : Room) ad f [.ref (ad k0), .int (nI i)] (fun v ad' f' => v = some (.int (nI ch)) ∧ ad = ad' ∧ f = f') := by
  refine ct_of (by decide +kernel) (Nat.le_of_ble_eq_true rfl) ?_
  intro p e s m args below meth c X hnm
  refine z_lv (lv' := [(0, .ref (ad k0)), (1, .int (nI i))]) [0, 1] rfl ?_
  refine z_aload_n X 0 dJ4_charAt_5068e_0 rfl rfl ?_
  refine z_iload_n X 1 dJ4_charAt_5068e_1 rfl rfl ?_
  refine z_callSU X (n := 1) (As := [.int (nI i)]) (rest := []) k0 rfl hb rfl (t5_at l G cy B ad f k0 k1 hne ml n hn g hb hg i hi ch hc hx) q_541 q_795 q_80 q_542 q_25 q_543 (by decide +kernel) ⟨Nat.le_of_ble_eq_true rfl, Nat.le_of_ble_eq_true rfl⟩ rfl rfl (Nat.le_of_ble_eq_true rfl) dJ4_charAt_5068e_2 ⟨Nat.le_of_ble_eq_true rfl, Nat.le_of_ble_eq_true rfl⟩ (fun v ad' f' hp had => ?_)
  obtain ⟨rfl, rfl, rfl⟩ := hp
  refine z_st (st' := [.int (nI ch)]) rfl ?_
  refine z_zret (t_chr hc) X (Nat.le_of_ble_eq_true rfl) (Nat.le_of_ble_eq_true rfl) ?_ dJ4_charAt_5068e_5
  exact ⟨rfl, rfl, rfl⟩
set_option maxHeartbeats 4000000 in
set_option maxRecDepth 100000 in
theorem t5_init (l : Launch) (G : va_G) (cy : Nat → ClassId) (B : Nat) (ad : Nat → Nat) (f : zW) (k0 k1 : Nat) (hne : k0 ≠ k1) (hb : f k0 = some (.inr (0, [.null, .int 0, .int 0, .int 0]))) (hn1 : f k1 = none) : Ct l G cy B yJ5_init_d00df cJ5_init_d00df 2 none ({ frames := 1, cells := 1, slots := 16, locals := 12 } : Room) ad f [.ref (ad k0), .int (nI 16)] (fun v ad' f' => v = none ∧ ∃ a9, zad ad k1 a9 = ad' ∧ zup (zup f k1 (.inl (cy 3, 16, .inl (fun _ => 0)))) k0 (.inr (0, [.ref a9, .int (nI 0), .int 0, .int 0])) = f') := by
  refine ct_of (by decide +kernel) (Nat.le_of_ble_eq_true rfl) ?_
  intro p e s m args below meth c X hnm
  refine z_lv (lv' := [(0, .ref (ad k0)), (1, .int (nI 16))]) [0, 1] rfl ?_
  refine z_aload_n X 0 dJ5_init_d00df_0 rfl rfl ?_
  refine z_objInit X q_59 q_46 q_47 dJ5_init_d00df_1 (Nat.le_of_ble_eq_true rfl) (Nat.le_of_ble_eq_true rfl) ?_
  refine z_gCS X q_60 dJ5_init_d00df_4 ?_
  refine z_if_eqN X (tgt := 25) (by omega) dJ5_init_d00df_7 (by decide) (fun c7 => by exfalso; omega) (fun c7 => ?_)
  refine z_aload_n X 0 dJ5_init_d00df_10 rfl rfl ?_
  refine z_iload_n X 1 dJ5_init_d00df_11 rfl rfl ?_
  refine z_newa X (atype := .byte) (ty := .byte) (N' := 16) (a0 := (16, .inl (fun _ => 0))) k1 3 hn1 q_84 rfl rfl (fun _ => rfl) (by decide) (by decide) (by decide) (Nat.le_of_ble_eq_true rfl) (Nat.le_of_ble_eq_true rfl) dJ5_init_d00df_12 (fun a12 => ?_)
  refine z_put X (ty := .array .byte) k0 0 wa_J4 tyJ4 tyJ4_ok nmJ4 rfl (zad_ne hne) ((zup_ne hne).trans hb) (by decide) q_68 rfl rfl (by decide +kernel) rfl rfl (Nat.le_of_ble_eq_true rfl) dJ5_init_d00df_14 ?_
  refine z_aload_n X 0 dJ5_init_d00df_17 rfl rfl ?_
  refine z_iconst X (v := nI 0) dJ5_init_d00df_18 (by decide) ?_
  refine z_put X (ty := .byte) k0 1 wa_J4 tyJ4 tyJ4_ok nmJ4 rfl (zad_ne hne) zup_same (by decide) q_69 rfl rfl (by decide +kernel) (by decide) (by decide) (Nat.le_of_ble_eq_true rfl) dJ5_init_d00df_19 ?_
  refine z_f zup_zup ?_
  refine z_goto X (tgt := 38) dJ5_init_d00df_22 (by decide) ?_
  refine z_vret X (Nat.le_of_ble_eq_true rfl) (Nat.le_of_ble_eq_true rfl) ?_ dJ5_init_d00df_38
  exact ⟨rfl, a12, rfl, rfl⟩
set_option maxHeartbeats 4000000 in
set_option maxRecDepth 100000 in
theorem t_init (l : Launch) (G : va_G) (cy : Nat → ClassId) (B : Nat) (ad : Nat → Nat) (f : zW) (k0 k1 : Nat) (hne : k0 ≠ k1) (hb : f k0 = some (.inr (0, [.null, .int 0, .int 0, .int 0]))) (hn1 : f k1 = none) : Ct l G cy B yJ4_init_da8c8 cJ4_init_da8c8 1 none ({ frames := 2, cells := 1, slots := 16, locals := 33 } : Room) ad f [.ref (ad k0)] (fun v ad' f' => v = none ∧ ∃ a9, zad ad k1 a9 = ad' ∧ zup (zup f k1 (.inl (cy 3, 16, .inl (fun _ => 0)))) k0 (.inr (0, [.ref a9, .int (nI 0), .int 0, .int 0])) = f') := by
  refine ct_of (by decide +kernel) (Nat.le_of_ble_eq_true rfl) ?_
  intro p e s m args below meth c X hnm
  refine z_lv (lv' := [(0, .ref (ad k0))]) [0] rfl ?_
  refine z_aload_n X 0 dJ4_init_da8c8_0 rfl rfl ?_
  refine z_bipush X (v := nI 16) dJ4_init_da8c8_1 (by decide) ?_
  refine z_callI X (n := 1) (As := [.int (nI 16)]) (rest := []) (t5_init l G cy B ad f k0 k1 hne hb hn1) q_56 q_57 q_25 q_58 rfl (by decide +kernel) ⟨Nat.le_of_ble_eq_true rfl, Nat.le_of_ble_eq_true rfl⟩ rfl rfl (Nat.le_of_ble_eq_true rfl) dJ4_init_da8c8_3 ⟨Nat.le_of_ble_eq_true rfl, Nat.le_of_ble_eq_true rfl⟩ (fun v ad' f' hp had => ?_)
  obtain ⟨rfl, a9, rfl, rfl⟩ := hp
  refine z_st (st' := []) rfl ?_
  refine z_vret X (Nat.le_of_ble_eq_true rfl) (Nat.le_of_ble_eq_true rfl) ?_ dJ4_init_da8c8_6
  exact ⟨rfl, a9, rfl, rfl⟩
