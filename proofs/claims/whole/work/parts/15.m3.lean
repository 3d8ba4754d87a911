/-! THE REFERENCE, third part -/
abbrev okLoadM (cn : Nat → Nat) (u : Nat → Nat → Int32) (w : Nat → Nat → Int64) (li ct j : Nat) : Prop := u 6 j = nI 2 ∧ u 11 j < 0 ∧ ct ≠ 8 ∧ loadM cn u w li 0 ct + weightM cn u w j ≤ w 22 li ∧ loadM cn u w li 1 ct + weightM cn u w j * lN (ct + 1) ≤ w 23 li
abbrev okPart (pt : Int32) : Prop := 0 ≤ pt.toInt64 ∧ pt.toInt64 ≤ 1
abbrev okRebM (cn : Nat → Nat) (u : Nat → Nat → Int32) (a b : Nat) : Prop := a ≠ b ∧ u 6 a = 0 ∧ u 6 b = 0 ∧ cn 5 ≠ 12
/-- what has been looked at when p letters of T are said -/
def lookS (T : Nat → Nat) (i p : Nat) : Int32 := if i < p then nI (T i) else -1
def sayU (u : Nat → Nat → Int32) (T : Nat → Nat) (i p : Nat) : Nat → Nat → Int32 := va_up u 0 (upd (upd (u 0) 27 (lookS T i p)) 26 (nI i - nI p))
theorem sayU_26 {u : Nat → Nat → Int32} {T : Nat → Nat} {i p : Nat} : sayU u T i p 0 26 = nI i - nI p := by simp [sayU, va_up, upd]
theorem sayU_27 {u : Nat → Nat → Int32} {T : Nat → Nat} {i p : Nat} : sayU u T i p 0 27 = lookS T i p := by simp [sayU, va_up, upd]
theorem say_0 {i p : Nat} (hi : i < 2 ^ 31) (hp : p < 2 ^ 31) : nI i - nI p = 0 ↔ i = p := by
  constructor
  · intro h
    exact (nI_eq hi hp).mp (by rw [← Int32.sub_add_cancel (nI i) (nI p), h, Int32.zero_add])
  · intro h
    rw [h, Int32.sub_self]
theorem sayU_next {u : Nat → Nat → Int32} {T : Nat → Nat} {i p : Nat} {ch : Int32} (hi : i < 2 ^ 31) (hp : p < 2 ^ 31) (h : ch = nI (T p)) : va_up (sayU u T i p) 0 (upd (upd (sayU u T i p 0) 27 (if sayU u T i p 0 26 = 0 then ch else sayU u T i p 0 27)) 26 (sayU u T i p 0 26 - nI 1)) = sayU u T i (p + 1) := by
  rw [sayU_26, sayU_27]
  have e1 : (if nI i - nI p = 0 then ch else lookS T i p) = lookS T i (p + 1) := by
    by_cases e : i = p
    · rw [if_pos ((say_0 hi hp).mpr e), h, lookS, if_pos (by omega), e]
    · rw [if_neg (fun q => e ((say_0 hi hp).mp q)), lookS, lookS]
      by_cases e2 : i < p
      · rw [if_pos e2, if_pos (by omega)]
      · rw [if_neg e2, if_neg (by omega)]
  have e2 : nI i - nI p - nI 1 = nI i - nI (p + 1) := by
    rw [← nI_add, Int32.sub_sub]
  rw [e1, e2]
  funext k
  unfold sayU va_up
  by_cases hk : k = 0
  · simp only [hk, if_true]
    funext y
    unfold upd
    by_cases h26 : y = 26
    · simp [h26]
    · by_cases h27 : y = 27
      · simp [h27]
      · simp [h26, h27]
  · simp [hk]
def byN (e : Nat) : Nat := if e = 0 then 0 else 10 ^ (e - 1)
theorem pw_lt {k : Nat} (h : k < 9) : 10 ^ k < 10 ^ 9 := Nat.pow_lt_pow_right (by decide) h
theorem dg_iff {n k : Nat} (hn : n < 10 ^ 9) (hk : k < 9) : n / 10 ^ k ≤ 9 ↔ sb_dg n ≤ k + 1 := by
  have hk' : k = 0 ∨ k = 1 ∨ k = 2 ∨ k = 3 ∨ k = 4 ∨ k = 5 ∨ k = 6 ∨ k = 7 ∨ k = 8 := by omega
  unfold sb_dg
  rcases hk' with rfl | rfl | rfl | rfl | rfl | rfl | rfl | rfl | rfl <;> (repeat' split) <;> omega
theorem dg_le9 {n : Nat} (hn : n < 10 ^ 9) : sb_dg n ≤ 9 := by
  unfold sb_dg
  (repeat' split) <;> omega
theorem lN_dv {n k : Nat} (hn : n < 10 ^ 9) (hk : k < 9) : lN n / lN (10 ^ k) = lN (n / 10 ^ k) := pk_lDiv (by omega) (Nat.pow_pos (by decide)) (Nat.lt_of_lt_of_le (pw_lt hk) (by decide))
theorem lN_pw {k : Nat} : lN (10 ^ k) * 10 = lN (10 ^ (k + 1)) := by rw [show (10 : Int64) = lN 10 from rfl, lN_mul, ← Nat.pow_succ]
theorem lN_pw0 {k : Nat} (hk : k < 9) : ¬ lN (10 ^ k) = 0 := fun h => by
  have h2 := (pk_lEQ (a := 10 ^ k) (b := 0) (Nat.lt_of_lt_of_le (pw_lt hk) (by decide)) (by decide)).mp h
  exact absurd h2 (Nat.ne_of_gt (Nat.pow_pos (by decide)))
theorem lN_9 {a : Nat} (ha : a < 2 ^ 63) : lN a ≤ 9 ↔ a ≤ 9 := by rw [show (9 : Int64) = lN 9 from rfl]; exact pk_lLE ha (by decide)
theorem byN_s (e : Nat) : byN (e + 1) = 10 ^ e := by simp [byN]
theorem byN_d {e : Nat} (he : e < 9) : lN (byN (e + 1)) / 10 = lN (byN e) := by
  rw [byN_s, show (10 : Int64) = lN 10 from rfl, pk_lDiv (Nat.lt_of_lt_of_le (pw_lt he) (by decide)) (by decide) (by decide)]
  cases e with
  | zero => rfl
  | succ e => rw [byN_s, Nat.pow_succ, Nat.mul_div_cancel _ (by decide)]
theorem dig_v {n e : Nat} (hn : n < 10 ^ 9) (he : e < 9) : (48 + (lN n / lN (byN (e + 1)) - lN n / lN (byN (e + 1)) / 10 * 10)).toInt32 = nI (48 + n / 10 ^ e % 10) := by
  have hd : n / 10 ^ e ≤ n := Nat.div_le_self _ _
  rw [byN_s, lN_dv hn he, show (10 : Int64) = lN 10 from rfl, pk_lRem (by omega) (by decide) (by decide), show (48 : Int64) = lN 48 from rfl, lN_add, lN_i]
theorem byN_0 {e : Nat} (h : 0 < e) (h9 : e ≤ 9) : ¬ lN (byN e) = 0 := by
  obtain ⟨k, rfl⟩ : ∃ k, e = k + 1 := ⟨e - 1, by omega⟩
  rw [byN_s]
  exact lN_pw0 (by omega)
theorem byN_n {e : Nat} (h : 0 < e) (h9 : e ≤ 9) : ¬ lN (byN e) ≤ 0 := by
  obtain ⟨k, rfl⟩ : ∃ k, e = k + 1 := ⟨e - 1, by omega⟩
  rw [byN_s]
  intro q
  have h2 := (pk_lLE (a := 10 ^ k) (b := 0) (Nat.lt_of_lt_of_le (pw_lt (by omega)) (by decide)) (by decide)).mp q
  exact absurd h2 (Nat.not_le.mpr (Nat.pow_pos (by decide)))
theorem byN_d' {e : Nat} (h : 0 < e) (h9 : e ≤ 9) : lN (byN e) / 10 = lN (byN (e - 1)) := by
  obtain ⟨k, rfl⟩ : ∃ k, e = k + 1 := ⟨e - 1, by omega⟩
  exact byN_d (by omega)
theorem dig_v' {n e : Nat} (hn : n < 10 ^ 9) (h : 0 < e) (h9 : e ≤ 9) : (48 + (lN n / lN (byN e) - lN n / lN (byN e) / 10 * 10)).toInt32 = nI (48 + n / 10 ^ (e - 1) % 10) := by
  obtain ⟨k, rfl⟩ : ∃ k, e = k + 1 := ⟨e - 1, by omega⟩
  exact dig_v hn (by omega)
theorem sayU_n0 {u : Nat → Nat → Int32} {T : Nat → Nat} {i p k : Nat} (h : k ≠ 0) : sayU u T i p k = u k := if_neg h
theorem gramsM_say {cn : Nat → Nat} {u : Nat → Nat → Int32} {w : Nat → Nat → Int64} {T : Nat → Nat} {i p j : Nat} {k : Int32} : gramsM cn (sayU u T i p) w j k = gramsM cn u w j k := by
  unfold gramsM
  rw [sayU_n0 (by decide), sayU_n0 (by decide), sayU_n0 (by decide), sayU_n0 (by decide)]
theorem weightM_say {cn : Nat → Nat} {u : Nat → Nat → Int32} {w : Nat → Nat → Int64} {T : Nat → Nat} {i p j : Nat} : weightM cn (sayU u T i p) w j = weightM cn u w j := by
  unfold weightM
  exact congrArg (fun g => sumL g 4) (funext fun k => gramsM_say)
theorem mainM_say {cn : Nat → Nat} {u : Nat → Nat → Int32} {w : Nat → Nat → Int64} {T : Nat → Nat} {i p j : Nat} : mainM cn (sayU u T i p) w j = mainM cn u w j := by
  unfold mainM
  exact congrArg (fun g => mainL g 3) (funext fun k => gramsM_say)
theorem sayU_start {u : Nat → Nat → Int32} {T : Nat → Nat} {i : Nat} : sayU u T i 0 = va_up u 0 (upd (upd (u 0) 26 (nI i)) 27 (-1)) := by
  have e1 : lookS T i 0 = -1 := if_neg (Nat.not_lt_zero i)
  have e2 : nI i - nI 0 = nI i := pk_sub (a := i) (b := 0) (Nat.zero_le i)
  unfold sayU
  rw [e1, e2]
  congr 1
  funext y
  unfold upd
  by_cases h26 : y = 26
  · simp [h26]
  · by_cases h27 : y = 27 <;> simp [h26, h27]
set_option maxHeartbeats 4000000 in
set_option maxRecDepth 100000 in
theorem m_load_i (l : Launch) (G : va_G) (cy : Nat → ClassId) (B : Nat) (ad : Nat → Nat) (cn : Nat → Nat) (u : Nat → Nat → Int32) (w : Nat → Nat → Int64) (x : Nat → Nat → UInt64) (hc0 : cn 0 ≤ 200) (hc5 : cn 5 ≤ 12) (hc21 : cn 21 ≤ 3) (li ct : Nat) (hli : li < cn 21) (hct : u 25 li = nI ct) (hc8 : ct ≤ 8) (hld : ∀ i, i < ct → ∃ b9, b9 < 12 ∧ u 24 (8 * li + i) = nI b9) (j : Nat) (hj : j < cn 5) : Ct l G cy B yX4_load cX4_load 6 (some .int) ({ frames := 4, cells := 0, slots := 0, locals := 98 } : Room) ad (MF cy ad cn u w x) [.ref (ad 0), .int (nI li), .int (nI j)] (fun v ad' f' => v = some (.int (if okLoadM cn u w li ct j then nI ct else -1)) ∧ ad = ad' ∧ (if okLoadM cn u w li ct j then MF cy ad cn (va_up (va_up (va_up u 24 (upd (u 24) (8 * li + ct) (nI j))) 25 (upd (u 25) li (nI (ct + 1)))) 11 (upd (u 11) j (nI li))) w x else MF cy ad cn u w x) = f') := by
  refine ct_of (by decide +kernel) (Nat.le_of_ble_eq_true rfl) ?_
  intro p e s m args below meth c X hnm
  refine z_lv (lv' := [(0, .ref (ad 0)), (1, .int (nI li)), (2, .int (nI j))]) [0, 1, 2] rfl ?_
  refine z_iload_n X 1 dX4_load_0 rfl rfl ?_
  refine z_if_ltN X (tgt := 50) (by omega) dX4_load_1 (by decide) ?_
  refine z_iload_n X 1 dX4_load_4 rfl rfl ?_
  refine z_aload_n X 0 dX4_load_5 rfl rfl ?_
  refine z_get X (v := .int (nI (cn 21))) 0 21 wa_X4 rfl rfl rfl (by decide) q_580 rfl rfl dX4_load_6 ?_
  refine z_icmp_geN X (tgt := 50) (by omega) (by omega) dX4_load_9 (by decide) (fun c9 => by exfalso; omega) (fun c9 => ?_)
  refine z_aload_n X 0 dX4_load_12 rfl rfl ?_
  refine z_iload_n X 2 dX4_load_13 rfl rfl ?_
  refine z_callV X (n := 1) (As := [.int (nI j)]) (rest := []) 0 rfl rfl rfl (m_isBale l G cy B ad cn u w x (nI j)) q_668 q_669 q_14 q_29 q_670 (by decide +kernel) ⟨Nat.le_of_ble_eq_true rfl, Nat.le_of_ble_eq_true rfl⟩ rfl rfl (Nat.le_of_ble_eq_true rfl) dX4_load_14 ⟨Nat.le_of_ble_eq_true rfl, Nat.le_of_ble_eq_true rfl⟩ (fun v ad' f' hp had => ?_)
  obtain ⟨rfl, rfl, rfl⟩ := hp
  refine z_st (st' := [.int (nI (if ¬ (nI j) < 0 ∧ ¬ nI (cn 5) ≤ (nI j) then 1 else 0))]) rfl ?_
  refine z_if_eqB X (tgt := 50) dX4_load_17 (by decide) (fun c17 => by exfalso; exact c17 ⟨nI_pos (by omega), nI_ge (by omega) (by omega)⟩) (fun c17 => ?_)
  refine z_aload_n X 0 dX4_load_20 rfl rfl ?_
  refine z_get X (v := .ref (ad 6)) 0 6 wa_X4 rfl rfl rfl (by decide) q_565 rfl rfl dX4_load_21 ?_
  refine z_iload_n X 2 dX4_load_24 rfl rfl ?_
  refine z_ialdN X (n := 12) (g := u 6) 6 rfl rfl (by omega) (by decide) dX4_load_25 ?_
  refine z_iconst X (v := nI 2) dX4_load_26 (by decide) ?_
  refine z_icmp_ne X (tgt := 50) dX4_load_27 (by decide) (fun c27 => ?_) (fun c27 => ?_)
  · refine z_iconst X (v := -1) dX4_load_50 (by decide) ?_
    refine z_iret X (Nat.le_of_ble_eq_true rfl) (Nat.le_of_ble_eq_true rfl) ?_ dX4_load_51
    have h9 : ¬ okLoadM cn u w li ct j := fun h9 => c27 h9.1
    exact ⟨by rw [if_neg h9], rfl, by rw [if_neg h9]⟩
  · refine z_aload_n X 0 dX4_load_30 rfl rfl ?_
    refine z_get X (v := .ref (ad 11)) 0 11 wa_X4 rfl rfl rfl (by decide) q_570 rfl rfl dX4_load_31 ?_
    refine z_iload_n X 2 dX4_load_34 rfl rfl ?_
    refine z_ialdN X (n := 12) (g := u 11) 11 rfl rfl (by omega) (by decide) dX4_load_35 ?_
    refine z_if_ge X (tgt := 50) dX4_load_36 (by decide) (fun c36 => ?_) (fun c36 => ?_)
    · refine z_iconst X (v := -1) dX4_load_50 (by decide) ?_
      refine z_iret X (Nat.le_of_ble_eq_true rfl) (Nat.le_of_ble_eq_true rfl) ?_ dX4_load_51
      have h9 : ¬ okLoadM cn u w li ct j := fun h9 => Int32.not_lt.mpr c36 h9.2.1
      exact ⟨by rw [if_neg h9], rfl, by rw [if_neg h9]⟩
    · refine z_aload_n X 0 dX4_load_39 rfl rfl ?_
      refine z_get X (v := .ref (ad 25)) 0 25 wa_X4 rfl rfl rfl (by decide) q_584 rfl rfl dX4_load_40 ?_
      refine z_iload_n X 1 dX4_load_43 rfl rfl ?_
      refine z_ialdN X (n := 3) (g := u 25) 25 rfl rfl (by omega) (by decide) dX4_load_44 ?_
      refine z_top (v' := .int (nI ct)) (by rw [hct]) ?_
      refine z_bipush X (v := nI 8) dX4_load_45 (by decide) ?_
      refine z_icmp_neN X (tgt := 52) (by omega) (by omega) dX4_load_47 (by decide) (fun c47 => ?_) (fun c47 => ?_)
      · refine z_aload_n X 0 dX4_load_52 rfl rfl ?_
        refine z_get X (v := .ref (ad 25)) 0 25 wa_X4 rfl rfl rfl (by decide) q_584 rfl rfl dX4_load_53 ?_
        refine z_iload_n X 1 dX4_load_56 rfl rfl ?_
        refine z_ialdN X (n := 3) (g := u 25) 25 rfl rfl (by omega) (by decide) dX4_load_57 ?_
        refine z_top (v' := .int (nI ct)) (by rw [hct]) ?_
        refine z_istore_n X (lv' := [(3, .int (nI ct)), (0, .ref (ad 0)), (1, .int (nI li)), (2, .int (nI j))]) dX4_load_58 rfl (by decide) rfl ?_
        refine z_aload_n X 1 dX4_load_59 rfl rfl ?_
        refine z_iload_n X 3 dX4_load_60 rfl rfl ?_
        refine z_callV X (n := 1) (As := [.int (nI j)]) (rest := []) 0 rfl rfl rfl (m_weight l G cy B ad cn u w x hc0 j (by omega)) q_686 q_687 q_17 q_29 q_688 (by decide +kernel) ⟨Nat.le_of_ble_eq_true rfl, Nat.le_of_ble_eq_true rfl⟩ rfl rfl (Nat.le_of_ble_eq_true rfl) dX4_load_61 ⟨Nat.le_of_ble_eq_true rfl, Nat.le_of_ble_eq_true rfl⟩ (fun v ad' f' hp had => ?_)
        obtain ⟨rfl, rfl, rfl⟩ := hp
        refine z_st (st' := [.long (weightM cn u w j)]) rfl ?_
        refine z_lstore X (lv' := [(4, .long (weightM cn u w j)), (3, .int (nI ct)), (0, .ref (ad 0)), (1, .int (nI li)), (2, .int (nI j))]) dX4_load_64 (by decide) rfl ?_
        refine z_aload_n X 2 dX4_load_66 rfl rfl ?_
        refine z_iload_n X 3 dX4_load_67 rfl rfl ?_
        refine z_iconst X (v := nI 0) dX4_load_68 (by decide) ?_
        refine z_callV X (n := 2) (As := [.int (nI li), .int (nI 0)]) (rest := []) 0 rfl rfl rfl (m_loadOf_0 l G cy B ad cn u w x hc0 li ct (by omega) hct hc8 hld) q_758 q_759 q_20 q_29 q_760 (by decide +kernel) ⟨Nat.le_of_ble_eq_true rfl, Nat.le_of_ble_eq_true rfl⟩ rfl rfl (Nat.le_of_ble_eq_true rfl) dX4_load_69 ⟨Nat.le_of_ble_eq_true rfl, Nat.le_of_ble_eq_true rfl⟩ (fun v ad' f' hp had => ?_)
        obtain ⟨rfl, rfl, rfl⟩ := hp
        refine z_st (st' := [.long (loadM cn u w li 0 ct)]) rfl ?_
        refine z_lload X 0 dX4_load_72 rfl ?_
        refine z_ladd X dX4_load_74 ?_
        refine z_aload_n X 2 dX4_load_75 rfl rfl ?_
        refine z_get X (v := .ref (ad 22)) 0 22 wa_X4 rfl rfl rfl (by decide) q_581 rfl rfl dX4_load_76 ?_
        refine z_iload_n X 3 dX4_load_79 rfl rfl ?_
        refine z_laldN X (n := 3) (g := w 22) 22 rfl rfl (by omega) (by decide) dX4_load_80 ?_
        refine z_lcmp_gt X (tgt := 109) dX4_load_81 dX4_load_82 (by decide) (fun c81 => ?_) (fun c81 => ?_)
        · refine z_iconst X (v := -1) dX4_load_109 (by decide) ?_
          refine z_iret X (Nat.le_of_ble_eq_true rfl) (Nat.le_of_ble_eq_true rfl) ?_ dX4_load_110
          have h9 : ¬ okLoadM cn u w li ct j := fun h9 => Int64.not_le.mpr c81 h9.2.2.2.1
          exact ⟨by rw [if_neg h9], rfl, by rw [if_neg h9]⟩
        · refine z_aload_n X 2 dX4_load_85 rfl rfl ?_
          refine z_iload_n X 3 dX4_load_86 rfl rfl ?_
          refine z_iconst X (v := nI 1) dX4_load_87 (by decide) ?_
          refine z_callV X (n := 2) (As := [.int (nI li), .int (nI 1)]) (rest := []) 0 rfl rfl rfl (m_loadOf_1 l G cy B ad cn u w x hc0 li ct (by omega) hct hc8 hld) q_758 q_759 q_20 q_29 q_760 (by decide +kernel) ⟨Nat.le_of_ble_eq_true rfl, Nat.le_of_ble_eq_true rfl⟩ rfl rfl (Nat.le_of_ble_eq_true rfl) dX4_load_88 ⟨Nat.le_of_ble_eq_true rfl, Nat.le_of_ble_eq_true rfl⟩ (fun v ad' f' hp had => ?_)
          obtain ⟨rfl, rfl, rfl⟩ := hp
          refine z_st (st' := [.long (loadM cn u w li 1 ct)]) rfl ?_
          refine z_lload X 0 dX4_load_91 rfl ?_
          refine z_iload_n X 1 dX4_load_93 rfl rfl ?_
          refine z_iconst X (v := nI 1) dX4_load_94 (by decide) ?_
          refine z_iaddN X dX4_load_95 ?_
          refine z_i2lN X (by omega) dX4_load_96 ?_
          refine z_lmul X dX4_load_97 ?_
          refine z_ladd X dX4_load_98 ?_
          refine z_aload_n X 2 dX4_load_99 rfl rfl ?_
          refine z_get X (v := .ref (ad 23)) 0 23 wa_X4 rfl rfl rfl (by decide) q_582 rfl rfl dX4_load_100 ?_
          refine z_iload_n X 3 dX4_load_103 rfl rfl ?_
          refine z_laldN X (n := 3) (g := w 23) 23 rfl rfl (by omega) (by decide) dX4_load_104 ?_
          refine z_lcmp_le X (tgt := 111) dX4_load_105 dX4_load_106 (by decide) (fun c105 => ?_) (fun c105 => ?_)
          · refine z_aload_n X 2 dX4_load_111 rfl rfl ?_
            refine z_get X (v := .ref (ad 24)) 0 24 wa_X4 rfl rfl rfl (by decide) q_583 rfl rfl dX4_load_112 ?_
            refine z_bipush X (v := nI 8) dX4_load_115 (by decide) ?_
            refine z_iload_n X 3 dX4_load_117 rfl rfl ?_
            refine z_imulN X dX4_load_118 ?_
            refine z_iload_n X 1 dX4_load_119 rfl rfl ?_
            refine z_iaddN X dX4_load_120 ?_
            refine z_iload_n X 4 dX4_load_121 rfl rfl ?_
            refine z_iastN X (n := 24) (g := u 24) 24 rfl rfl (by omega) (by decide) dX4_load_122 ?_
            refine z_f (MF_u 24 24 rfl (by decide) _) ?_
            refine z_aload_n X 2 dX4_load_123 rfl rfl ?_
            refine z_get X (v := .ref (ad 25)) 0 25 wa_X4 rfl rfl rfl (by decide) q_584 rfl rfl dX4_load_124 ?_
            refine z_iload_n X 3 dX4_load_127 rfl rfl ?_
            refine z_dup2_11 X dX4_load_128 rfl rfl ?_
            refine z_ialdN X (n := 3) (g := u 25) 25 rfl rfl (by omega) (by decide) dX4_load_129 ?_
            refine z_top (v' := .int (nI ct)) (by rw [hct]) ?_
            refine z_iconst X (v := nI 1) dX4_load_130 (by decide) ?_
            refine z_iaddN X dX4_load_131 ?_
            refine z_iastN X (n := 3) (g := u 25) 25 rfl rfl (by omega) (by decide) dX4_load_132 ?_
            refine z_f (MF_u 25 3 rfl (by decide) _) ?_
            refine z_aload_n X 2 dX4_load_133 rfl rfl ?_
            refine z_get X (v := .ref (ad 11)) 0 11 wa_X4 rfl rfl rfl (by decide) q_570 rfl rfl dX4_load_134 ?_
            refine z_iload_n X 4 dX4_load_137 rfl rfl ?_
            refine z_iload_n X 3 dX4_load_138 rfl rfl ?_
            refine z_iastN X (n := 12) (g := u 11) 11 rfl rfl (by omega) (by decide) dX4_load_139 ?_
            refine z_f (MF_u 11 12 rfl (by decide) _) ?_
            refine z_iload_n X 1 dX4_load_140 rfl rfl ?_
            refine z_iret X (Nat.le_of_ble_eq_true rfl) (Nat.le_of_ble_eq_true rfl) ?_ dX4_load_141
            have h9 : okLoadM cn u w li ct j := ⟨c27, Int32.not_le.mp c36, c47, Int64.not_lt.mp c81, c105⟩
            exact ⟨by rw [if_pos h9], rfl, by rw [if_pos h9]⟩
          · refine z_iconst X (v := -1) dX4_load_109 (by decide) ?_
            refine z_iret X (Nat.le_of_ble_eq_true rfl) (Nat.le_of_ble_eq_true rfl) ?_ dX4_load_110
            have h9 : ¬ okLoadM cn u w li ct j := fun h9 => c105 h9.2.2.2.2
            exact ⟨by rw [if_neg h9], rfl, by rw [if_neg h9]⟩
      · refine z_iconst X (v := -1) dX4_load_50 (by decide) ?_
        refine z_iret X (Nat.le_of_ble_eq_true rfl) (Nat.le_of_ble_eq_true rfl) ?_ dX4_load_51
        have h9 : ¬ okLoadM cn u w li ct j := fun h9 => h9.2.2.1 c47
        exact ⟨by rw [if_neg h9], rfl, by rw [if_neg h9]⟩
set_option maxHeartbeats 4000000 in
set_option maxRecDepth 100000 in
theorem m_load_o1 (l : Launch) (G : va_G) (cy : Nat → ClassId) (B : Nat) (ad : Nat → Nat) (cn : Nat → Nat) (u : Nat → Nat → Int32) (w : Nat → Nat → Int64) (x : Nat → Nat → UInt64) (b : Int32) (hb : ¬ (¬ b < 0 ∧ ¬ nI (cn 21) ≤ b)) (c2 : Int32) : Ct l G cy B yX4_load cX4_load 6 (some .int) ({ frames := 0, cells := 0, slots := 0, locals := 0 } : Room) ad (MF cy ad cn u w x) [.ref (ad 0), .int b, .int c2] (fun v ad' f' => v = some (.int (-1)) ∧ ad = ad' ∧ MF cy ad cn u w x = f') := by
  refine ct_of (by decide +kernel) (Nat.le_of_ble_eq_true rfl) ?_
  intro p e s m args below meth c X hnm
  refine z_lv (lv' := [(0, .ref (ad 0)), (1, .int b), (2, .int c2)]) [0, 1, 2] rfl ?_
  refine z_iload_n X 1 dX4_load_0 rfl rfl ?_
  refine z_if_lt X (tgt := 50) dX4_load_1 (by decide) (fun c1 => ?_) (fun c1 => ?_)
  · refine z_iconst X (v := -1) dX4_load_50 (by decide) ?_
    refine z_iret X (Nat.le_of_ble_eq_true rfl) (Nat.le_of_ble_eq_true rfl) ?_ dX4_load_51
    exact ⟨rfl, rfl, rfl⟩
  · refine z_iload_n X 1 dX4_load_4 rfl rfl ?_
    refine z_aload_n X 0 dX4_load_5 rfl rfl ?_
    refine z_get X (v := .int (nI (cn 21))) 0 21 wa_X4 rfl rfl rfl (by decide) q_580 rfl rfl dX4_load_6 ?_
    refine z_icmp_ge X (tgt := 50) dX4_load_9 (by decide) (fun c9 => ?_) (fun c9 => by exfalso; exact hb ⟨c1, c9⟩)
    refine z_iconst X (v := -1) dX4_load_50 (by decide) ?_
    refine z_iret X (Nat.le_of_ble_eq_true rfl) (Nat.le_of_ble_eq_true rfl) ?_ dX4_load_51
    exact ⟨rfl, rfl, rfl⟩
set_option maxHeartbeats 4000000 in
set_option maxRecDepth 100000 in
theorem m_load_o2 (l : Launch) (G : va_G) (cy : Nat → ClassId) (B : Nat) (ad : Nat → Nat) (cn : Nat → Nat) (u : Nat → Nat → Int32) (w : Nat → Nat → Int64) (x : Nat → Nat → UInt64) (hc21 : cn 21 ≤ 3) (li : Nat) (hli : li < cn 21) (b : Int32) (hb : ¬ (¬ b < 0 ∧ ¬ nI (cn 5) ≤ b)) : Ct l G cy B yX4_load cX4_load 6 (some .int) ({ frames := 1, cells := 0, slots := 0, locals := 21 } : Room) ad (MF cy ad cn u w x) [.ref (ad 0), .int (nI li), .int b] (fun v ad' f' => v = some (.int (-1)) ∧ ad = ad' ∧ MF cy ad cn u w x = f') := by
  refine ct_of (by decide +kernel) (Nat.le_of_ble_eq_true rfl) ?_
  intro p e s m args below meth c X hnm
  refine z_lv (lv' := [(0, .ref (ad 0)), (1, .int (nI li)), (2, .int b)]) [0, 1, 2] rfl ?_
  refine z_iload_n X 1 dX4_load_0 rfl rfl ?_
  refine z_if_ltN X (tgt := 50) (by omega) dX4_load_1 (by decide) ?_
  refine z_iload_n X 1 dX4_load_4 rfl rfl ?_
  refine z_aload_n X 0 dX4_load_5 rfl rfl ?_
  refine z_get X (v := .int (nI (cn 21))) 0 21 wa_X4 rfl rfl rfl (by decide) q_580 rfl rfl dX4_load_6 ?_
  refine z_icmp_geN X (tgt := 50) (by omega) (by omega) dX4_load_9 (by decide) (fun c9 => by exfalso; omega) (fun c9 => ?_)
  refine z_aload_n X 0 dX4_load_12 rfl rfl ?_
  refine z_iload_n X 2 dX4_load_13 rfl rfl ?_
  refine z_callV X (n := 1) (As := [.int b]) (rest := []) 0 rfl rfl rfl (m_isBale l G cy B ad cn u w x b) q_668 q_669 q_14 q_29 q_670 (by decide +kernel) ⟨Nat.le_of_ble_eq_true rfl, Nat.le_of_ble_eq_true rfl⟩ rfl rfl (Nat.le_of_ble_eq_true rfl) dX4_load_14 ⟨Nat.le_of_ble_eq_true rfl, Nat.le_of_ble_eq_true rfl⟩ (fun v ad' f' hp had => ?_)
  obtain ⟨rfl, rfl, rfl⟩ := hp
  refine z_st (st' := [.int (nI (if ¬ b < 0 ∧ ¬ nI (cn 5) ≤ b then 1 else 0))]) rfl ?_
  refine z_if_eqB X (tgt := 50) dX4_load_17 (by decide) (fun c17 => ?_) (fun c17 => by exfalso; exact hb c17)
  refine z_iconst X (v := -1) dX4_load_50 (by decide) ?_
  refine z_iret X (Nat.le_of_ble_eq_true rfl) (Nat.le_of_ble_eq_true rfl) ?_ dX4_load_51
  exact ⟨rfl, rfl, rfl⟩
set_option maxHeartbeats 4000000 in
set_option maxRecDepth 100000 in
theorem m_moment_i (l : Launch) (G : va_G) (cy : Nat → ClassId) (B : Nat) (ad : Nat → Nat) (cn : Nat → Nat) (u : Nat → Nat → Int32) (w : Nat → Nat → Int64) (x : Nat → Nat → UInt64) (hc0 : cn 0 ≤ 200) (hc21 : cn 21 ≤ 3) (li ct : Nat) (hli : li < cn 21) (hct : u 25 li = nI ct) (hc8 : ct ≤ 8) (hld : ∀ i, i < ct → ∃ b9, b9 < 12 ∧ u 24 (8 * li + i) = nI b9) (pt : Int32) : Ct l G cy B yX4_moment cX4_moment 3 (some .long) ({ frames := 4, cells := 0, slots := 0, locals := 98 } : Room) ad (MF cy ad cn u w x) [.ref (ad 0), .int (nI li), .int pt] (fun v ad' f' => v = some (.long (if okPart pt then (if pt = nI 1 then loadM cn u w li 1 ct else loadM cn u w li 0 ct) else -1)) ∧ ad = ad' ∧ MF cy ad cn u w x = f') := by
  refine ct_of (by decide +kernel) (Nat.le_of_ble_eq_true rfl) ?_
  intro p e s m args below meth c X hnm
  refine z_lv (lv' := [(0, .ref (ad 0)), (1, .int (nI li)), (2, .int pt)]) [0, 1, 2] rfl ?_
  refine z_iload_n X 1 dX4_moment_0 rfl rfl ?_
  refine z_if_ltN X (tgt := 40) (by omega) dX4_moment_1 (by decide) ?_
  refine z_iload_n X 1 dX4_moment_4 rfl rfl ?_
  refine z_aload_n X 0 dX4_moment_5 rfl rfl ?_
  refine z_get X (v := .int (nI (cn 21))) 0 21 wa_X4 rfl rfl rfl (by decide) q_580 rfl rfl dX4_moment_6 ?_
  refine z_icmp_geN X (tgt := 40) (by omega) (by omega) dX4_moment_9 (by decide) (fun c9 => by exfalso; omega) (fun c9 => ?_)
  refine z_iload_n X 2 dX4_moment_12 rfl rfl ?_
  refine z_i2l X dX4_moment_13 ?_
  refine z_lconst X (v := 0) dX4_moment_14 rfl ?_
  refine z_lconst X (v := 1) dX4_moment_15 rfl ?_
  refine z_callS X (n := 3) (As := [.long pt.toInt64, .long 0, .long 1]) (rest := []) (c_X4_isIn l G cy B ad (MF cy ad cn u w x) pt.toInt64 0 1) q_652 q_653 q_29 q_654 (by decide +kernel) ⟨Nat.le_of_ble_eq_true rfl, Nat.le_of_ble_eq_true rfl⟩ rfl rfl (Nat.le_of_ble_eq_true rfl) dX4_moment_16 ⟨Nat.le_of_ble_eq_true rfl, Nat.le_of_ble_eq_true rfl⟩ (fun v ad' f' hp had => ?_)
  obtain ⟨rfl, rfl, rfl⟩ := hp
  refine z_st (st' := [.int (nI (if 0 ≤ pt.toInt64 ∧ pt.toInt64 ≤ 1 then 1 else 0))]) rfl ?_
  refine z_if_eqB X (tgt := 40) dX4_moment_19 (by decide) (fun c19 => ?_) (fun c19 => ?_)
  · refine z_ldc2 X dX4_moment_40 q_677 ?_
    refine z_lret X (Nat.le_of_ble_eq_true rfl) (Nat.le_of_ble_eq_true rfl) ?_ dX4_moment_43
    exact ⟨by rw [if_neg c19], rfl, rfl⟩
  · refine z_aload_n X 0 dX4_moment_22 rfl rfl ?_
    refine z_iload_n X 1 dX4_moment_23 rfl rfl ?_
    refine z_iload_n X 2 dX4_moment_24 rfl rfl ?_
    refine z_iconst X (v := nI 1) dX4_moment_25 (by decide) ?_
    refine z_icmp_ne X (tgt := 33) dX4_moment_26 (by decide) (fun c26 => ?_) (fun c26 => ?_)
    · refine z_iconst X (v := nI 0) dX4_moment_33 (by decide) ?_
      refine z_callV X (n := 2) (As := [.int (nI li), .int (nI 0)]) (rest := []) 0 rfl rfl rfl (m_loadOf_0 l G cy B ad cn u w x hc0 li ct (by omega) hct hc8 hld) q_758 q_759 q_20 q_29 q_760 (by decide +kernel) ⟨Nat.le_of_ble_eq_true rfl, Nat.le_of_ble_eq_true rfl⟩ rfl rfl (Nat.le_of_ble_eq_true rfl) dX4_moment_34 ⟨Nat.le_of_ble_eq_true rfl, Nat.le_of_ble_eq_true rfl⟩ (fun v ad' f' hp had => ?_)
      obtain ⟨rfl, rfl, rfl⟩ := hp
      refine z_st (st' := [.long (loadM cn u w li 0 ct)]) rfl ?_
      refine z_goto X (tgt := 43) dX4_moment_37 (by decide) ?_
      refine z_lret X (Nat.le_of_ble_eq_true rfl) (Nat.le_of_ble_eq_true rfl) ?_ dX4_moment_43
      exact ⟨by rw [if_pos c19, if_neg c26], rfl, rfl⟩
    · refine z_iconst X (v := nI 1) dX4_moment_29 (by decide) ?_
      refine z_goto X (tgt := 34) dX4_moment_30 (by decide) ?_
      refine z_callV X (n := 2) (As := [.int (nI li), .int (nI 1)]) (rest := []) 0 rfl rfl rfl (m_loadOf_1 l G cy B ad cn u w x hc0 li ct (by omega) hct hc8 hld) q_758 q_759 q_20 q_29 q_760 (by decide +kernel) ⟨Nat.le_of_ble_eq_true rfl, Nat.le_of_ble_eq_true rfl⟩ rfl rfl (Nat.le_of_ble_eq_true rfl) dX4_moment_34 ⟨Nat.le_of_ble_eq_true rfl, Nat.le_of_ble_eq_true rfl⟩ (fun v ad' f' hp had => ?_)
      obtain ⟨rfl, rfl, rfl⟩ := hp
      refine z_st (st' := [.long (loadM cn u w li 1 ct)]) rfl ?_
      refine z_goto X (tgt := 43) dX4_moment_37 (by decide) ?_
      refine z_lret X (Nat.le_of_ble_eq_true rfl) (Nat.le_of_ble_eq_true rfl) ?_ dX4_moment_43
      exact ⟨by rw [if_pos c19, if_pos c26], rfl, rfl⟩
set_option maxHeartbeats 4000000 in
set_option maxRecDepth 100000 in
theorem m_moment_o (l : Launch) (G : va_G) (cy : Nat → ClassId) (B : Nat) (ad : Nat → Nat) (cn : Nat → Nat) (u : Nat → Nat → Int32) (w : Nat → Nat → Int64) (x : Nat → Nat → UInt64) (b : Int32) (hb : ¬ (¬ b < 0 ∧ ¬ nI (cn 21) ≤ b)) (pt : Int32) : Ct l G cy B yX4_moment cX4_moment 3 (some .long) ({ frames := 0, cells := 0, slots := 0, locals := 0 } : Room) ad (MF cy ad cn u w x) [.ref (ad 0), .int b, .int pt] (fun v ad' f' => v = some (.long (-1)) ∧ ad = ad' ∧ MF cy ad cn u w x = f') := by
  refine ct_of (by decide +kernel) (Nat.le_of_ble_eq_true rfl) ?_
  intro p e s m args below meth c X hnm
  refine z_lv (lv' := [(0, .ref (ad 0)), (1, .int b), (2, .int pt)]) [0, 1, 2] rfl ?_
  refine z_iload_n X 1 dX4_moment_0 rfl rfl ?_
  refine z_if_lt X (tgt := 40) dX4_moment_1 (by decide) (fun c1 => ?_) (fun c1 => ?_)
  · refine z_ldc2 X dX4_moment_40 q_677 ?_
    refine z_lret X (Nat.le_of_ble_eq_true rfl) (Nat.le_of_ble_eq_true rfl) ?_ dX4_moment_43
    exact ⟨rfl, rfl, rfl⟩
  · refine z_iload_n X 1 dX4_moment_4 rfl rfl ?_
    refine z_aload_n X 0 dX4_moment_5 rfl rfl ?_
    refine z_get X (v := .int (nI (cn 21))) 0 21 wa_X4 rfl rfl rfl (by decide) q_580 rfl rfl dX4_moment_6 ?_
    refine z_icmp_ge X (tgt := 40) dX4_moment_9 (by decide) (fun c9 => ?_) (fun c9 => by exfalso; exact hb ⟨c1, c9⟩)
    refine z_ldc2 X dX4_moment_40 q_677 ?_
    refine z_lret X (Nat.le_of_ble_eq_true rfl) (Nat.le_of_ble_eq_true rfl) ?_ dX4_moment_43
    exact ⟨rfl, rfl, rfl⟩
set_option maxHeartbeats 4000000 in
set_option maxRecDepth 100000 in
theorem m_rebale_i (l : Launch) (G : va_G) (cy : Nat → ClassId) (B : Nat) (ad : Nat → Nat) (cn : Nat → Nat) (u : Nat → Nat → Int32) (w : Nat → Nat → Int64) (x : Nat → Nat → UInt64) (hc5 : cn 5 ≤ 12) (a : Nat) (ha : a < cn 5) (b : Nat) (hb : b < cn 5) : Ct l G cy B yX4_rebale cX4_rebale 4 (some .int) ({ frames := 1, cells := 0, slots := 0, locals := 21 } : Room) ad (MF cy ad cn u w x) [.ref (ad 0), .int (nI a), .int (nI b)] (fun v ad' f' => v = some (.int (if okRebM cn u a b then nI (cn 5) else -1)) ∧ ad = ad' ∧ (if okRebM cn u a b then MF cy ad (va_up cn 5 (cn 5 + 1)) (va_up (va_up (va_up (va_up (va_up u 6 (upd (upd (upd (u 6) (cn 5) (nI 0)) a (nI 3)) b (nI 3))) 12 (upd (u 12) (cn 5) (nI a))) 13 (upd (u 13) (cn 5) (nI b))) 10 (upd (u 10) (cn 5) (-1))) 11 (upd (u 11) (cn 5) (-1))) w (va_up x 7 (vf_upd (x 7) (cn 5) (if dGt (x 7 a) (x 7 b) = true then x 7 a else x 7 b))) else MF cy ad cn u w x) = f') := by
  refine ct_of (by decide +kernel) (Nat.le_of_ble_eq_true rfl) ?_
  intro p e s m args below meth c X hnm
  refine z_lv (lv' := [(0, .ref (ad 0)), (1, .int (nI a)), (2, .int (nI b))]) [0, 1, 2] rfl ?_
  refine z_aload_n X 0 dX4_rebale_0 rfl rfl ?_
  refine z_iload_n X 1 dX4_rebale_1 rfl rfl ?_
  refine z_callV X (n := 1) (As := [.int (nI a)]) (rest := []) 0 rfl rfl rfl (m_isBale l G cy B ad cn u w x (nI a)) q_668 q_669 q_14 q_29 q_670 (by decide +kernel) ⟨Nat.le_of_ble_eq_true rfl, Nat.le_of_ble_eq_true rfl⟩ rfl rfl (Nat.le_of_ble_eq_true rfl) dX4_rebale_2 ⟨Nat.le_of_ble_eq_true rfl, Nat.le_of_ble_eq_true rfl⟩ (fun v ad' f' hp had => ?_)
  obtain ⟨rfl, rfl, rfl⟩ := hp
  refine z_st (st' := [.int (nI (if ¬ (nI a) < 0 ∧ ¬ nI (cn 5) ≤ (nI a) then 1 else 0))]) rfl ?_
  refine z_if_eqB X (tgt := 48) dX4_rebale_5 (by decide) (fun c5 => by exfalso; exact c5 ⟨nI_pos (by omega), nI_ge (by omega) (by omega)⟩) (fun c5 => ?_)
  refine z_aload_n X 0 dX4_rebale_8 rfl rfl ?_
  refine z_iload_n X 2 dX4_rebale_9 rfl rfl ?_
  refine z_callV X (n := 1) (As := [.int (nI b)]) (rest := []) 0 rfl rfl rfl (m_isBale l G cy B ad cn u w x (nI b)) q_668 q_669 q_14 q_29 q_670 (by decide +kernel) ⟨Nat.le_of_ble_eq_true rfl, Nat.le_of_ble_eq_true rfl⟩ rfl rfl (Nat.le_of_ble_eq_true rfl) dX4_rebale_10 ⟨Nat.le_of_ble_eq_true rfl, Nat.le_of_ble_eq_true rfl⟩ (fun v ad' f' hp had => ?_)
  obtain ⟨rfl, rfl, rfl⟩ := hp
  refine z_st (st' := [.int (nI (if ¬ (nI b) < 0 ∧ ¬ nI (cn 5) ≤ (nI b) then 1 else 0))]) rfl ?_
  refine z_if_eqB X (tgt := 48) dX4_rebale_13 (by decide) (fun c13 => by exfalso; exact c13 ⟨nI_pos (by omega), nI_ge (by omega) (by omega)⟩) (fun c13 => ?_)
  refine z_iload_n X 1 dX4_rebale_16 rfl rfl ?_
  refine z_iload_n X 2 dX4_rebale_17 rfl rfl ?_
  refine z_icmp_eqN X (tgt := 48) (by omega) (by omega) dX4_rebale_18 (by decide) (fun c18 => ?_) (fun c18 => ?_)
  · refine z_iconst X (v := -1) dX4_rebale_48 (by decide) ?_
    refine z_iret X (Nat.le_of_ble_eq_true rfl) (Nat.le_of_ble_eq_true rfl) ?_ dX4_rebale_49
    have h9 : ¬ okRebM cn u a b := fun h9 => h9.1 c18
    exact ⟨by rw [if_neg h9], rfl, by rw [if_neg h9]⟩
  · refine z_aload_n X 0 dX4_rebale_21 rfl rfl ?_
    refine z_get X (v := .ref (ad 6)) 0 6 wa_X4 rfl rfl rfl (by decide) q_565 rfl rfl dX4_rebale_22 ?_
    refine z_iload_n X 1 dX4_rebale_25 rfl rfl ?_
    refine z_ialdN X (n := 12) (g := u 6) 6 rfl rfl (by omega) (by decide) dX4_rebale_26 ?_
    refine z_if_ne X (tgt := 48) dX4_rebale_27 (by decide) (fun c27 => ?_) (fun c27 => ?_)
    · refine z_iconst X (v := -1) dX4_rebale_48 (by decide) ?_
      refine z_iret X (Nat.le_of_ble_eq_true rfl) (Nat.le_of_ble_eq_true rfl) ?_ dX4_rebale_49
      have h9 : ¬ okRebM cn u a b := fun h9 => c27 h9.2.1
      exact ⟨by rw [if_neg h9], rfl, by rw [if_neg h9]⟩
    · refine z_aload_n X 0 dX4_rebale_30 rfl rfl ?_
      refine z_get X (v := .ref (ad 6)) 0 6 wa_X4 rfl rfl rfl (by decide) q_565 rfl rfl dX4_rebale_31 ?_
      refine z_iload_n X 2 dX4_rebale_34 rfl rfl ?_
      refine z_ialdN X (n := 12) (g := u 6) 6 rfl rfl (by omega) (by decide) dX4_rebale_35 ?_
      refine z_if_ne X (tgt := 48) dX4_rebale_36 (by decide) (fun c36 => ?_) (fun c36 => ?_)
      · refine z_iconst X (v := -1) dX4_rebale_48 (by decide) ?_
        refine z_iret X (Nat.le_of_ble_eq_true rfl) (Nat.le_of_ble_eq_true rfl) ?_ dX4_rebale_49
        have h9 : ¬ okRebM cn u a b := fun h9 => c36 h9.2.2.1
        exact ⟨by rw [if_neg h9], rfl, by rw [if_neg h9]⟩
      · refine z_aload_n X 0 dX4_rebale_39 rfl rfl ?_
        refine z_get X (v := .int (nI (cn 5))) 0 5 wa_X4 rfl rfl rfl (by decide) q_564 rfl rfl dX4_rebale_40 ?_
        refine z_bipush X (v := nI 12) dX4_rebale_43 (by decide) ?_
        refine z_icmp_neN X (tgt := 50) (by omega) (by omega) dX4_rebale_45 (by decide) (fun c45 => ?_) (fun c45 => ?_)
        · refine z_aload_n X 0 dX4_rebale_50 rfl rfl ?_
          refine z_callV X (n := 0) (As := []) (rest := []) 0 rfl rfl rfl (m_make l G cy B ad cn u w x (by omega)) q_660 q_661 q_13 q_29 q_662 (by decide +kernel) ⟨Nat.le_of_ble_eq_true rfl, Nat.le_of_ble_eq_true rfl⟩ rfl rfl (Nat.le_of_ble_eq_true rfl) dX4_rebale_51 ⟨Nat.le_of_ble_eq_true rfl, Nat.le_of_ble_eq_true rfl⟩ (fun v ad' f' hp had => ?_)
          obtain ⟨rfl, rfl, rfl⟩ := hp
          refine z_st (st' := [.int (nI (cn 5))]) rfl ?_
          refine z_istore_n X (lv' := [(3, .int (nI (cn 5))), (0, .ref (ad 0)), (1, .int (nI a)), (2, .int (nI b))]) dX4_rebale_54 rfl (by decide) rfl ?_
          refine z_aload_n X 1 dX4_rebale_55 rfl rfl ?_
          refine z_get X (v := .ref (ad 12)) 0 12 wa_X4 rfl rfl rfl (by decide) q_571 rfl rfl dX4_rebale_56 ?_
          refine z_iload_n X 0 dX4_rebale_59 rfl rfl ?_
          refine z_iload_n X 2 dX4_rebale_60 rfl rfl ?_
          refine z_iastN X (n := 12) (g := upd (u 12) (cn 5) (-1)) 12 rfl rfl (by omega) (by decide) dX4_rebale_61 ?_
          refine z_f (MF_u 12 12 rfl (by decide) _) ?_
          refine z_f (congrArg (fun z => MF cy ad (va_up cn 5 (cn 5 + 1)) z w (va_up x 7 (vf_upd (x 7) (cn 5) 4626322717216342016))) (show va_up (va_up (va_up (va_up (va_up (va_up u 6 (upd (u 6) (cn 5) (nI 0))) 12 (upd (u 12) (cn 5) (-1))) 13 (upd (u 13) (cn 5) (-1))) 10 (upd (u 10) (cn 5) (-1))) 11 (upd (u 11) (cn 5) (-1))) 12 (upd (upd (u 12) (cn 5) (-1)) (cn 5) (nI a)) = va_up (va_up (va_up (va_up (va_up u 6 (upd (u 6) (cn 5) (nI 0))) 12 (upd (u 12) (cn 5) (nI a))) 13 (upd (u 13) (cn 5) (-1))) 10 (upd (u 10) (cn 5) (-1))) 11 (upd (u 11) (cn 5) (-1)) from by (try simp only [upd_uu, vfu_uu, vpu_uu]); funext z9; simp only [va_up]; (repeat' split) <;> first | rfl | omega | simp_all)) ?_
          refine z_aload_n X 1 dX4_rebale_62 rfl rfl ?_
          refine z_get X (v := .ref (ad 13)) 0 13 wa_X4 rfl rfl rfl (by decide) q_572 rfl rfl dX4_rebale_63 ?_
          refine z_iload_n X 0 dX4_rebale_66 rfl rfl ?_
          refine z_iload_n X 3 dX4_rebale_67 rfl rfl ?_
          refine z_iastN X (n := 12) (g := upd (u 13) (cn 5) (-1)) 13 rfl rfl (by omega) (by decide) dX4_rebale_68 ?_
          refine z_f (MF_u 13 12 rfl (by decide) _) ?_
          refine z_f (congrArg (fun z => MF cy ad (va_up cn 5 (cn 5 + 1)) z w (va_up x 7 (vf_upd (x 7) (cn 5) 4626322717216342016))) (show va_up (va_up (va_up (va_up (va_up (va_up u 6 (upd (u 6) (cn 5) (nI 0))) 12 (upd (u 12) (cn 5) (nI a))) 13 (upd (u 13) (cn 5) (-1))) 10 (upd (u 10) (cn 5) (-1))) 11 (upd (u 11) (cn 5) (-1))) 13 (upd (upd (u 13) (cn 5) (-1)) (cn 5) (nI b)) = va_up (va_up (va_up (va_up (va_up u 6 (upd (u 6) (cn 5) (nI 0))) 12 (upd (u 12) (cn 5) (nI a))) 13 (upd (u 13) (cn 5) (nI b))) 10 (upd (u 10) (cn 5) (-1))) 11 (upd (u 11) (cn 5) (-1)) from by (try simp only [upd_uu, vfu_uu, vpu_uu]); funext z9; simp only [va_up]; (repeat' split) <;> first | rfl | omega | simp_all)) ?_
          refine z_aload_n X 1 dX4_rebale_69 rfl rfl ?_
          refine z_get X (v := .ref (ad 7)) 0 7 wa_X4 rfl rfl rfl (by decide) q_566 rfl rfl dX4_rebale_70 ?_
          refine z_iload_n X 0 dX4_rebale_73 rfl rfl ?_
          refine z_aload_n X 1 dX4_rebale_74 rfl rfl ?_
          refine z_get X (v := .ref (ad 7)) 0 7 wa_X4 rfl rfl rfl (by decide) q_566 rfl rfl dX4_rebale_75 ?_
          refine z_iload_n X 2 dX4_rebale_78 rfl rfl ?_
          refine z_daldN X (n := 12) (g := vf_upd (x 7) (cn 5) 4626322717216342016) 7 rfl rfl (by omega) (by decide) dX4_rebale_79 ?_
          refine z_top (v' := .double (x 7 a)) (by exact congrArg Value.double (if_neg (by omega))) ?_
          refine z_aload_n X 1 dX4_rebale_80 rfl rfl ?_
          refine z_get X (v := .ref (ad 7)) 0 7 wa_X4 rfl rfl rfl (by decide) q_566 rfl rfl dX4_rebale_81 ?_
          refine z_iload_n X 3 dX4_rebale_84 rfl rfl ?_
          refine z_daldN X (n := 12) (g := vf_upd (x 7) (cn 5) 4626322717216342016) 7 rfl rfl (by omega) (by decide) dX4_rebale_85 ?_
          refine z_top (v' := .double (x 7 b)) (by exact congrArg Value.double (if_neg (by omega))) ?_
          refine z_dcmp_le X (tgt := 99) dX4_rebale_86 dX4_rebale_87 (by decide) (fun c86 => ?_) (fun c86 => ?_)
          · refine z_aload_n X 1 dX4_rebale_99 rfl rfl ?_
            refine z_get X (v := .ref (ad 7)) 0 7 wa_X4 rfl rfl rfl (by decide) q_566 rfl rfl dX4_rebale_100 ?_
            refine z_iload_n X 3 dX4_rebale_103 rfl rfl ?_
            refine z_daldN X (n := 12) (g := vf_upd (x 7) (cn 5) 4626322717216342016) 7 rfl rfl (by omega) (by decide) dX4_rebale_104 ?_
            refine z_top (v' := .double (x 7 b)) (by exact congrArg Value.double (if_neg (by omega))) ?_
            refine z_dastN X (n := 12) (g := vf_upd (x 7) (cn 5) 4626322717216342016) 7 rfl rfl (by omega) (by decide) dX4_rebale_105 ?_
            refine z_f (MF_x 7 12 rfl (by decide) _) ?_
            refine z_f (congrArg (fun z => MF cy ad (va_up cn 5 (cn 5 + 1)) (va_up (va_up (va_up (va_up (va_up u 6 (upd (u 6) (cn 5) (nI 0))) 12 (upd (u 12) (cn 5) (nI a))) 13 (upd (u 13) (cn 5) (nI b))) 10 (upd (u 10) (cn 5) (-1))) 11 (upd (u 11) (cn 5) (-1))) w z) (show va_up (va_up x 7 (vf_upd (x 7) (cn 5) 4626322717216342016)) 7 (vf_upd (vf_upd (x 7) (cn 5) 4626322717216342016) (cn 5) (x 7 b)) = va_up x 7 (vf_upd (x 7) (cn 5) (x 7 b)) from by (try simp only [upd_uu, vfu_uu, vpu_uu]); funext z9; simp only [va_up]; (repeat' split) <;> first | rfl | omega | simp_all)) ?_
            refine z_aload_n X 1 dX4_rebale_106 rfl rfl ?_
            refine z_get X (v := .ref (ad 6)) 0 6 wa_X4 rfl rfl rfl (by decide) q_565 rfl rfl dX4_rebale_107 ?_
            refine z_iload_n X 2 dX4_rebale_110 rfl rfl ?_
            refine z_iconst X (v := nI 3) dX4_rebale_111 (by decide) ?_
            refine z_iastN X (n := 12) (g := upd (u 6) (cn 5) (nI 0)) 6 rfl rfl (by omega) (by decide) dX4_rebale_112 ?_
            refine z_f (MF_u 6 12 rfl (by decide) _) ?_
            refine z_f (congrArg (fun z => MF cy ad (va_up cn 5 (cn 5 + 1)) z w (va_up x 7 (vf_upd (x 7) (cn 5) (x 7 b)))) (show va_up (va_up (va_up (va_up (va_up (va_up u 6 (upd (u 6) (cn 5) (nI 0))) 12 (upd (u 12) (cn 5) (nI a))) 13 (upd (u 13) (cn 5) (nI b))) 10 (upd (u 10) (cn 5) (-1))) 11 (upd (u 11) (cn 5) (-1))) 6 (upd (upd (u 6) (cn 5) (nI 0)) a (nI 3)) = va_up (va_up (va_up (va_up (va_up u 6 (upd (upd (u 6) (cn 5) (nI 0)) a (nI 3))) 12 (upd (u 12) (cn 5) (nI a))) 13 (upd (u 13) (cn 5) (nI b))) 10 (upd (u 10) (cn 5) (-1))) 11 (upd (u 11) (cn 5) (-1)) from by (try simp only [upd_uu, vfu_uu, vpu_uu]); funext z9; simp only [va_up]; (repeat' split) <;> first | rfl | omega | simp_all)) ?_
            refine z_aload_n X 1 dX4_rebale_113 rfl rfl ?_
            refine z_get X (v := .ref (ad 6)) 0 6 wa_X4 rfl rfl rfl (by decide) q_565 rfl rfl dX4_rebale_114 ?_
            refine z_iload_n X 3 dX4_rebale_117 rfl rfl ?_
            refine z_iconst X (v := nI 3) dX4_rebale_118 (by decide) ?_
            refine z_iastN X (n := 12) (g := upd (upd (u 6) (cn 5) (nI 0)) a (nI 3)) 6 rfl rfl (by omega) (by decide) dX4_rebale_119 ?_
            refine z_f (MF_u 6 12 rfl (by decide) _) ?_
            refine z_f (congrArg (fun z => MF cy ad (va_up cn 5 (cn 5 + 1)) z w (va_up x 7 (vf_upd (x 7) (cn 5) (x 7 b)))) (show va_up (va_up (va_up (va_up (va_up (va_up u 6 (upd (upd (u 6) (cn 5) (nI 0)) a (nI 3))) 12 (upd (u 12) (cn 5) (nI a))) 13 (upd (u 13) (cn 5) (nI b))) 10 (upd (u 10) (cn 5) (-1))) 11 (upd (u 11) (cn 5) (-1))) 6 (upd (upd (upd (u 6) (cn 5) (nI 0)) a (nI 3)) b (nI 3)) = va_up (va_up (va_up (va_up (va_up u 6 (upd (upd (upd (u 6) (cn 5) (nI 0)) a (nI 3)) b (nI 3))) 12 (upd (u 12) (cn 5) (nI a))) 13 (upd (u 13) (cn 5) (nI b))) 10 (upd (u 10) (cn 5) (-1))) 11 (upd (u 11) (cn 5) (-1)) from by (try simp only [upd_uu, vfu_uu, vpu_uu]); funext z9; simp only [va_up]; (repeat' split) <;> first | rfl | omega | simp_all)) ?_
            refine z_iload_n X 0 dX4_rebale_120 rfl rfl ?_
            refine z_iret X (Nat.le_of_ble_eq_true rfl) (Nat.le_of_ble_eq_true rfl) ?_ dX4_rebale_121
            have h9 : okRebM cn u a b := ⟨c18, by simpa using c27, by simpa using c36, c45⟩
            exact ⟨by rw [if_pos h9], rfl, by rw [if_pos h9, if_neg (by rw [c86]; exact Bool.false_ne_true)]⟩
          · refine z_aload_n X 1 dX4_rebale_90 rfl rfl ?_
            refine z_get X (v := .ref (ad 7)) 0 7 wa_X4 rfl rfl rfl (by decide) q_566 rfl rfl dX4_rebale_91 ?_
            refine z_iload_n X 2 dX4_rebale_94 rfl rfl ?_
            refine z_daldN X (n := 12) (g := vf_upd (x 7) (cn 5) 4626322717216342016) 7 rfl rfl (by omega) (by decide) dX4_rebale_95 ?_
            refine z_top (v' := .double (x 7 a)) (by exact congrArg Value.double (if_neg (by omega))) ?_
            refine z_goto X (tgt := 105) dX4_rebale_96 (by decide) ?_
            refine z_dastN X (n := 12) (g := vf_upd (x 7) (cn 5) 4626322717216342016) 7 rfl rfl (by omega) (by decide) dX4_rebale_105 ?_
            refine z_f (MF_x 7 12 rfl (by decide) _) ?_
            refine z_f (congrArg (fun z => MF cy ad (va_up cn 5 (cn 5 + 1)) (va_up (va_up (va_up (va_up (va_up u 6 (upd (u 6) (cn 5) (nI 0))) 12 (upd (u 12) (cn 5) (nI a))) 13 (upd (u 13) (cn 5) (nI b))) 10 (upd (u 10) (cn 5) (-1))) 11 (upd (u 11) (cn 5) (-1))) w z) (show va_up (va_up x 7 (vf_upd (x 7) (cn 5) 4626322717216342016)) 7 (vf_upd (vf_upd (x 7) (cn 5) 4626322717216342016) (cn 5) (x 7 a)) = va_up x 7 (vf_upd (x 7) (cn 5) (x 7 a)) from by (try simp only [upd_uu, vfu_uu, vpu_uu]); funext z9; simp only [va_up]; (repeat' split) <;> first | rfl | omega | simp_all)) ?_
            refine z_aload_n X 1 dX4_rebale_106 rfl rfl ?_
            refine z_get X (v := .ref (ad 6)) 0 6 wa_X4 rfl rfl rfl (by decide) q_565 rfl rfl dX4_rebale_107 ?_
            refine z_iload_n X 2 dX4_rebale_110 rfl rfl ?_
            refine z_iconst X (v := nI 3) dX4_rebale_111 (by decide) ?_
            refine z_iastN X (n := 12) (g := upd (u 6) (cn 5) (nI 0)) 6 rfl rfl (by omega) (by decide) dX4_rebale_112 ?_
            refine z_f (MF_u 6 12 rfl (by decide) _) ?_
            refine z_f (congrArg (fun z => MF cy ad (va_up cn 5 (cn 5 + 1)) z w (va_up x 7 (vf_upd (x 7) (cn 5) (x 7 a)))) (show va_up (va_up (va_up (va_up (va_up (va_up u 6 (upd (u 6) (cn 5) (nI 0))) 12 (upd (u 12) (cn 5) (nI a))) 13 (upd (u 13) (cn 5) (nI b))) 10 (upd (u 10) (cn 5) (-1))) 11 (upd (u 11) (cn 5) (-1))) 6 (upd (upd (u 6) (cn 5) (nI 0)) a (nI 3)) = va_up (va_up (va_up (va_up (va_up u 6 (upd (upd (u 6) (cn 5) (nI 0)) a (nI 3))) 12 (upd (u 12) (cn 5) (nI a))) 13 (upd (u 13) (cn 5) (nI b))) 10 (upd (u 10) (cn 5) (-1))) 11 (upd (u 11) (cn 5) (-1)) from by (try simp only [upd_uu, vfu_uu, vpu_uu]); funext z9; simp only [va_up]; (repeat' split) <;> first | rfl | omega | simp_all)) ?_
            refine z_aload_n X 1 dX4_rebale_113 rfl rfl ?_
            refine z_get X (v := .ref (ad 6)) 0 6 wa_X4 rfl rfl rfl (by decide) q_565 rfl rfl dX4_rebale_114 ?_
            refine z_iload_n X 3 dX4_rebale_117 rfl rfl ?_
            refine z_iconst X (v := nI 3) dX4_rebale_118 (by decide) ?_
            refine z_iastN X (n := 12) (g := upd (upd (u 6) (cn 5) (nI 0)) a (nI 3)) 6 rfl rfl (by omega) (by decide) dX4_rebale_119 ?_
            refine z_f (MF_u 6 12 rfl (by decide) _) ?_
            refine z_f (congrArg (fun z => MF cy ad (va_up cn 5 (cn 5 + 1)) z w (va_up x 7 (vf_upd (x 7) (cn 5) (x 7 a)))) (show va_up (va_up (va_up (va_up (va_up (va_up u 6 (upd (upd (u 6) (cn 5) (nI 0)) a (nI 3))) 12 (upd (u 12) (cn 5) (nI a))) 13 (upd (u 13) (cn 5) (nI b))) 10 (upd (u 10) (cn 5) (-1))) 11 (upd (u 11) (cn 5) (-1))) 6 (upd (upd (upd (u 6) (cn 5) (nI 0)) a (nI 3)) b (nI 3)) = va_up (va_up (va_up (va_up (va_up u 6 (upd (upd (upd (u 6) (cn 5) (nI 0)) a (nI 3)) b (nI 3))) 12 (upd (u 12) (cn 5) (nI a))) 13 (upd (u 13) (cn 5) (nI b))) 10 (upd (u 10) (cn 5) (-1))) 11 (upd (u 11) (cn 5) (-1)) from by (try simp only [upd_uu, vfu_uu, vpu_uu]); funext z9; simp only [va_up]; (repeat' split) <;> first | rfl | omega | simp_all)) ?_
            refine z_iload_n X 0 dX4_rebale_120 rfl rfl ?_
            refine z_iret X (Nat.le_of_ble_eq_true rfl) (Nat.le_of_ble_eq_true rfl) ?_ dX4_rebale_121
            have h9 : okRebM cn u a b := ⟨c18, by simpa using c27, by simpa using c36, c45⟩
            exact ⟨by rw [if_pos h9], rfl, by rw [if_pos h9, if_pos c86]⟩
        · refine z_iconst X (v := -1) dX4_rebale_48 (by decide) ?_
          refine z_iret X (Nat.le_of_ble_eq_true rfl) (Nat.le_of_ble_eq_true rfl) ?_ dX4_rebale_49
          have h9 : ¬ okRebM cn u a b := fun h9 => h9.2.2.2 c45
          exact ⟨by rw [if_neg h9], rfl, by rw [if_neg h9]⟩
set_option maxHeartbeats 4000000 in
set_option maxRecDepth 100000 in
theorem m_rebale_o1 (l : Launch) (G : va_G) (cy : Nat → ClassId) (B : Nat) (ad : Nat → Nat) (cn : Nat → Nat) (u : Nat → Nat → Int32) (w : Nat → Nat → Int64) (x : Nat → Nat → UInt64) (b : Int32) (hb : ¬ (¬ b < 0 ∧ ¬ nI (cn 5) ≤ b)) (c2 : Int32) : Ct l G cy B yX4_rebale cX4_rebale 4 (some .int) ({ frames := 1, cells := 0, slots := 0, locals := 21 } : Room) ad (MF cy ad cn u w x) [.ref (ad 0), .int b, .int c2] (fun v ad' f' => v = some (.int (-1)) ∧ ad = ad' ∧ MF cy ad cn u w x = f') := by
  refine ct_of (by decide +kernel) (Nat.le_of_ble_eq_true rfl) ?_
  intro p e s m args below meth c X hnm
  refine z_lv (lv' := [(0, .ref (ad 0)), (1, .int b), (2, .int c2)]) [0, 1, 2] rfl ?_
  refine z_aload_n X 0 dX4_rebale_0 rfl rfl ?_
  refine z_iload_n X 1 dX4_rebale_1 rfl rfl ?_
  refine z_callV X (n := 1) (As := [.int b]) (rest := []) 0 rfl rfl rfl (m_isBale l G cy B ad cn u w x b) q_668 q_669 q_14 q_29 q_670 (by decide +kernel) ⟨Nat.le_of_ble_eq_true rfl, Nat.le_of_ble_eq_true rfl⟩ rfl rfl (Nat.le_of_ble_eq_true rfl) dX4_rebale_2 ⟨Nat.le_of_ble_eq_true rfl, Nat.le_of_ble_eq_true rfl⟩ (fun v ad' f' hp had => ?_)
  obtain ⟨rfl, rfl, rfl⟩ := hp
  refine z_st (st' := [.int (nI (if ¬ b < 0 ∧ ¬ nI (cn 5) ≤ b then 1 else 0))]) rfl ?_
  refine z_if_eqB X (tgt := 48) dX4_rebale_5 (by decide) (fun c5 => ?_) (fun c5 => by exfalso; exact hb c5)
  refine z_iconst X (v := -1) dX4_rebale_48 (by decide) ?_
  refine z_iret X (Nat.le_of_ble_eq_true rfl) (Nat.le_of_ble_eq_true rfl) ?_ dX4_rebale_49
  exact ⟨rfl, rfl, rfl⟩
set_option maxHeartbeats 4000000 in
set_option maxRecDepth 100000 in
theorem m_rebale_o2 (l : Launch) (G : va_G) (cy : Nat → ClassId) (B : Nat) (ad : Nat → Nat) (cn : Nat → Nat) (u : Nat → Nat → Int32) (w : Nat → Nat → Int64) (x : Nat → Nat → UInt64) (hc5 : cn 5 ≤ 12) (a : Nat) (ha : a < cn 5) (b : Int32) (hb : ¬ (¬ b < 0 ∧ ¬ nI (cn 5) ≤ b)) : Ct l G cy B yX4_rebale cX4_rebale 4 (some .int) ({ frames := 1, cells := 0, slots := 0, locals := 21 } : Room) ad (MF cy ad cn u w x) [.ref (ad 0), .int (nI a), .int b] (fun v ad' f' => v = some (.int (-1)) ∧ ad = ad' ∧ MF cy ad cn u w x = f') := by
  refine ct_of (by decide +kernel) (Nat.le_of_ble_eq_true rfl) ?_
  intro p e s m args below meth c X hnm
  refine z_lv (lv' := [(0, .ref (ad 0)), (1, .int (nI a)), (2, .int b)]) [0, 1, 2] rfl ?_
  refine z_aload_n X 0 dX4_rebale_0 rfl rfl ?_
  refine z_iload_n X 1 dX4_rebale_1 rfl rfl ?_
  refine z_callV X (n := 1) (As := [.int (nI a)]) (rest := []) 0 rfl rfl rfl (m_isBale l G cy B ad cn u w x (nI a)) q_668 q_669 q_14 q_29 q_670 (by decide +kernel) ⟨Nat.le_of_ble_eq_true rfl, Nat.le_of_ble_eq_true rfl⟩ rfl rfl (Nat.le_of_ble_eq_true rfl) dX4_rebale_2 ⟨Nat.le_of_ble_eq_true rfl, Nat.le_of_ble_eq_true rfl⟩ (fun v ad' f' hp had => ?_)
  obtain ⟨rfl, rfl, rfl⟩ := hp
  refine z_st (st' := [.int (nI (if ¬ (nI a) < 0 ∧ ¬ nI (cn 5) ≤ (nI a) then 1 else 0))]) rfl ?_
  refine z_if_eqB X (tgt := 48) dX4_rebale_5 (by decide) (fun c5 => by exfalso; exact c5 ⟨nI_pos (by omega), nI_ge (by omega) (by omega)⟩) (fun c5 => ?_)
  refine z_aload_n X 0 dX4_rebale_8 rfl rfl ?_
  refine z_iload_n X 2 dX4_rebale_9 rfl rfl ?_
  refine z_callV X (n := 1) (As := [.int b]) (rest := []) 0 rfl rfl rfl (m_isBale l G cy B ad cn u w x b) q_668 q_669 q_14 q_29 q_670 (by decide +kernel) ⟨Nat.le_of_ble_eq_true rfl, Nat.le_of_ble_eq_true rfl⟩ rfl rfl (Nat.le_of_ble_eq_true rfl) dX4_rebale_10 ⟨Nat.le_of_ble_eq_true rfl, Nat.le_of_ble_eq_true rfl⟩ (fun v ad' f' hp had => ?_)
  obtain ⟨rfl, rfl, rfl⟩ := hp
  refine z_st (st' := [.int (nI (if ¬ b < 0 ∧ ¬ nI (cn 5) ≤ b then 1 else 0))]) rfl ?_
  refine z_if_eqB X (tgt := 48) dX4_rebale_13 (by decide) (fun c13 => ?_) (fun c13 => by exfalso; exact hb c13)
  refine z_iconst X (v := -1) dX4_rebale_48 (by decide) ?_
  refine z_iret X (Nat.le_of_ble_eq_true rfl) (Nat.le_of_ble_eq_true rfl) ?_ dX4_rebale_49
  exact ⟨rfl, rfl, rfl⟩
set_option maxHeartbeats 4000000 in
set_option maxRecDepth 100000 in
theorem m_brought_i (l : Launch) (G : va_G) (cy : Nat → ClassId) (B : Nat) (ad : Nat → Nat) (cn : Nat → Nat) (u : Nat → Nat → Int32) (w : Nat → Nat → Int64) (x : Nat → Nat → UInt64) (hc0 : cn 0 ≤ 200) (hc5 : cn 5 ≤ 12) (hfo : ∀ b, b < cn 5 → ¬ u 12 b < 0 → ∃ a1 a2, a1 < 12 ∧ a2 < 12 ∧ u 12 b = nI a1 ∧ u 13 b = nI a2) (j : Nat) (hj : j < cn 5) (k pt : Int32) : Ct l G cy B yX4_brought cX4_brought 4 (some .long) ({ frames := 2, cells := 0, slots := 0, locals := 49 } : Room) ad (MF cy ad cn u w x) [.ref (ad 0), .int (nI j), .int k, .int pt] (fun v ad' f' => v = some (.long (if okKind k ∧ okPart pt then (if u 12 j < 0 then 0 else if pt = 0 then gramsM cn u w (u 12 j).toNatClampNeg k else gramsM cn u w (u 13 j).toNatClampNeg k) else -1)) ∧ ad = ad' ∧ MF cy ad cn u w x = f') := by
  refine ct_of (by decide +kernel) (Nat.le_of_ble_eq_true rfl) ?_
  intro p e s m args below meth c X hnm
  refine z_lv (lv' := [(0, .ref (ad 0)), (1, .int (nI j)), (2, .int k), (3, .int pt)]) [0, 1, 2, 3] rfl ?_
  refine z_aload_n X 0 dX4_brought_0 rfl rfl ?_
  refine z_iload_n X 1 dX4_brought_1 rfl rfl ?_
  refine z_callV X (n := 1) (As := [.int (nI j)]) (rest := []) 0 rfl rfl rfl (m_isBale l G cy B ad cn u w x (nI j)) q_668 q_669 q_14 q_29 q_670 (by decide +kernel) ⟨Nat.le_of_ble_eq_true rfl, Nat.le_of_ble_eq_true rfl⟩ rfl rfl (Nat.le_of_ble_eq_true rfl) dX4_brought_2 ⟨Nat.le_of_ble_eq_true rfl, Nat.le_of_ble_eq_true rfl⟩ (fun v ad' f' hp had => ?_)
  obtain ⟨rfl, rfl, rfl⟩ := hp
  refine z_st (st' := [.int (nI (if ¬ (nI j) < 0 ∧ ¬ nI (cn 5) ≤ (nI j) then 1 else 0))]) rfl ?_
  refine z_if_eqB X (tgt := 25) dX4_brought_5 (by decide) (fun c5 => by exfalso; exact c5 ⟨nI_pos (by omega), nI_ge (by omega) (by omega)⟩) (fun c5 => ?_)
  refine z_iload_n X 2 dX4_brought_8 rfl rfl ?_
  refine z_callS X (n := 1) (As := [.int k]) (rest := []) (c_X4_isKind l G cy B ad (MF cy ad cn u w x) k) q_648 q_649 q_29 q_650 (by decide +kernel) ⟨Nat.le_of_ble_eq_true rfl, Nat.le_of_ble_eq_true rfl⟩ rfl rfl (Nat.le_of_ble_eq_true rfl) dX4_brought_9 ⟨Nat.le_of_ble_eq_true rfl, Nat.le_of_ble_eq_true rfl⟩ (fun v ad' f' hp had => ?_)
  obtain ⟨rfl, rfl, rfl⟩ := hp
  refine z_st (st' := [.int (nI (if okKind k then 1 else 0))]) rfl ?_
  refine z_if_eqB X (tgt := 25) dX4_brought_12 (by decide) (fun c12 => ?_) (fun c12 => ?_)
  · refine z_ldc2 X dX4_brought_25 q_677 ?_
    refine z_lret X (Nat.le_of_ble_eq_true rfl) (Nat.le_of_ble_eq_true rfl) ?_ dX4_brought_28
    exact ⟨by rw [if_neg (fun h => c12 h.1)], rfl, rfl⟩
  · refine z_iload_n X 3 dX4_brought_15 rfl rfl ?_
    refine z_i2l X dX4_brought_16 ?_
    refine z_lconst X (v := 0) dX4_brought_17 rfl ?_
    refine z_lconst X (v := 1) dX4_brought_18 rfl ?_
    refine z_callS X (n := 3) (As := [.long pt.toInt64, .long 0, .long 1]) (rest := []) (c_X4_isIn l G cy B ad (MF cy ad cn u w x) pt.toInt64 0 1) q_652 q_653 q_29 q_654 (by decide +kernel) ⟨Nat.le_of_ble_eq_true rfl, Nat.le_of_ble_eq_true rfl⟩ rfl rfl (Nat.le_of_ble_eq_true rfl) dX4_brought_19 ⟨Nat.le_of_ble_eq_true rfl, Nat.le_of_ble_eq_true rfl⟩ (fun v ad' f' hp had => ?_)
    obtain ⟨rfl, rfl, rfl⟩ := hp
    refine z_st (st' := [.int (nI (if 0 ≤ pt.toInt64 ∧ pt.toInt64 ≤ 1 then 1 else 0))]) rfl ?_
    refine z_if_neB X (tgt := 29) dX4_brought_22 (by decide) (fun c22 => ?_) (fun c22 => ?_)
    · refine z_aload_n X 0 dX4_brought_29 rfl rfl ?_
      refine z_get X (v := .ref (ad 12)) 0 12 wa_X4 rfl rfl rfl (by decide) q_571 rfl rfl dX4_brought_30 ?_
      refine z_iload_n X 1 dX4_brought_33 rfl rfl ?_
      refine z_ialdN X (n := 12) (g := u 12) 12 rfl rfl (by omega) (by decide) dX4_brought_34 ?_
      refine z_if_ge X (tgt := 40) dX4_brought_35 (by decide) (fun c35 => ?_) (fun c35 => ?_)
      · obtain ⟨a1, a2, ha1, ha2, e1, e2⟩ := hfo j hj (Int32.not_lt.mpr c35)
        refine z_aload_n X 0 dX4_brought_40 rfl rfl ?_
        refine z_iload_n X 3 dX4_brought_41 rfl rfl ?_
        refine z_if_ne X (tgt := 54) dX4_brought_42 (by decide) (fun c42 => ?_) (fun c42 => ?_)
        · refine z_aload_n X 0 dX4_brought_54 rfl rfl ?_
          refine z_get X (v := .ref (ad 13)) 0 13 wa_X4 rfl rfl rfl (by decide) q_572 rfl rfl dX4_brought_55 ?_
          refine z_iload_n X 1 dX4_brought_58 rfl rfl ?_
          refine z_ialdN X (n := 12) (g := u 13) 13 rfl rfl (by omega) (by decide) dX4_brought_59 ?_
          refine z_top (v' := .int (nI a2)) (by rw [e2]) ?_
          refine z_iload_n X 2 dX4_brought_60 rfl rfl ?_
          refine z_callV X (n := 2) (As := [.int (nI a2), .int k]) (rest := []) 0 rfl rfl rfl (m_gramsOf l G cy B ad cn u w x hc0 a2 (by omega) k) q_671 q_672 q_15 q_29 q_673 (by decide +kernel) ⟨Nat.le_of_ble_eq_true rfl, Nat.le_of_ble_eq_true rfl⟩ rfl rfl (Nat.le_of_ble_eq_true rfl) dX4_brought_61 ⟨Nat.le_of_ble_eq_true rfl, Nat.le_of_ble_eq_true rfl⟩ (fun v ad' f' hp had => ?_)
          obtain ⟨rfl, rfl, rfl⟩ := hp
          refine z_st (st' := [.long (gramsM cn u w a2 k)]) rfl ?_
          refine z_lret X (Nat.le_of_ble_eq_true rfl) (Nat.le_of_ble_eq_true rfl) ?_ dX4_brought_64
          exact ⟨by rw [if_pos ⟨c12, c22⟩, if_neg (Int32.not_lt.mpr c35), if_neg c42, e2, nI_clamp (by omega)], rfl, rfl⟩
        · refine z_aload_n X 0 dX4_brought_45 rfl rfl ?_
          refine z_get X (v := .ref (ad 12)) 0 12 wa_X4 rfl rfl rfl (by decide) q_571 rfl rfl dX4_brought_46 ?_
          refine z_iload_n X 1 dX4_brought_49 rfl rfl ?_
          refine z_ialdN X (n := 12) (g := u 12) 12 rfl rfl (by omega) (by decide) dX4_brought_50 ?_
          refine z_top (v' := .int (nI a1)) (by rw [e1]) ?_
          refine z_goto X (tgt := 60) dX4_brought_51 (by decide) ?_
          refine z_iload_n X 2 dX4_brought_60 rfl rfl ?_
          refine z_callV X (n := 2) (As := [.int (nI a1), .int k]) (rest := []) 0 rfl rfl rfl (m_gramsOf l G cy B ad cn u w x hc0 a1 (by omega) k) q_671 q_672 q_15 q_29 q_673 (by decide +kernel) ⟨Nat.le_of_ble_eq_true rfl, Nat.le_of_ble_eq_true rfl⟩ rfl rfl (Nat.le_of_ble_eq_true rfl) dX4_brought_61 ⟨Nat.le_of_ble_eq_true rfl, Nat.le_of_ble_eq_true rfl⟩ (fun v ad' f' hp had => ?_)
          obtain ⟨rfl, rfl, rfl⟩ := hp
          refine z_st (st' := [.long (gramsM cn u w a1 k)]) rfl ?_
          refine z_lret X (Nat.le_of_ble_eq_true rfl) (Nat.le_of_ble_eq_true rfl) ?_ dX4_brought_64
          exact ⟨by rw [if_pos ⟨c12, c22⟩, if_neg (Int32.not_lt.mpr c35), if_pos c42, e1, nI_clamp (by omega)], rfl, rfl⟩
      · refine z_lconst X (v := 0) dX4_brought_38 rfl ?_
        refine z_lret X (Nat.le_of_ble_eq_true rfl) (Nat.le_of_ble_eq_true rfl) ?_ dX4_brought_39
        exact ⟨by rw [if_pos ⟨c12, c22⟩, if_pos (Int32.not_le.mp c35)], rfl, rfl⟩
    · refine z_ldc2 X dX4_brought_25 q_677 ?_
      refine z_lret X (Nat.le_of_ble_eq_true rfl) (Nat.le_of_ble_eq_true rfl) ?_ dX4_brought_28
      exact ⟨by rw [if_neg (fun h => c22 h.2)], rfl, rfl⟩
set_option maxHeartbeats 4000000 in
set_option maxRecDepth 100000 in
theorem m_brought_o (l : Launch) (G : va_G) (cy : Nat → ClassId) (B : Nat) (ad : Nat → Nat) (cn : Nat → Nat) (u : Nat → Nat → Int32) (w : Nat → Nat → Int64) (x : Nat → Nat → UInt64) (b : Int32) (hb : ¬ (¬ b < 0 ∧ ¬ nI (cn 5) ≤ b)) (k pt : Int32) : Ct l G cy B yX4_brought cX4_brought 4 (some .long) ({ frames := 1, cells := 0, slots := 0, locals := 21 } : Room) ad (MF cy ad cn u w x) [.ref (ad 0), .int b, .int k, .int pt] (fun v ad' f' => v = some (.long (-1)) ∧ ad = ad' ∧ MF cy ad cn u w x = f') := by
  refine ct_of (by decide +kernel) (Nat.le_of_ble_eq_true rfl) ?_
  intro p e s m args below meth c X hnm
  refine z_lv (lv' := [(0, .ref (ad 0)), (1, .int b), (2, .int k), (3, .int pt)]) [0, 1, 2, 3] rfl ?_
  refine z_aload_n X 0 dX4_brought_0 rfl rfl ?_
  refine z_iload_n X 1 dX4_brought_1 rfl rfl ?_
  refine z_callV X (n := 1) (As := [.int b]) (rest := []) 0 rfl rfl rfl (m_isBale l G cy B ad cn u w x b) q_668 q_669 q_14 q_29 q_670 (by decide +kernel) ⟨Nat.le_of_ble_eq_true rfl, Nat.le_of_ble_eq_true rfl⟩ rfl rfl (Nat.le_of_ble_eq_true rfl) dX4_brought_2 ⟨Nat.le_of_ble_eq_true rfl, Nat.le_of_ble_eq_true rfl⟩ (fun v ad' f' hp had => ?_)
  obtain ⟨rfl, rfl, rfl⟩ := hp
  refine z_st (st' := [.int (nI (if ¬ b < 0 ∧ ¬ nI (cn 5) ≤ b then 1 else 0))]) rfl ?_
  refine z_if_eqB X (tgt := 25) dX4_brought_5 (by decide) (fun c5 => ?_) (fun c5 => by exfalso; exact hb c5)
  refine z_ldc2 X dX4_brought_25 q_677 ?_
  refine z_lret X (Nat.le_of_ble_eq_true rfl) (Nat.le_of_ble_eq_true rfl) ?_ dX4_brought_28
  exact ⟨rfl, rfl, rfl⟩
set_option maxHeartbeats 4000000 in
set_option maxRecDepth 100000 in
theorem m_say (l : Launch) (G : va_G) (cy : Nat → ClassId) (B : Nat) (ad : Nat → Nat) (cn : Nat → Nat) (u : Nat → Nat → Int32) (w : Nat → Nat → Int64) (x : Nat → Nat → UInt64) (ch : Int32) : Ct l G cy B yX4_say cX4_say 2 none ({ frames := 0, cells := 0, slots := 0, locals := 0 } : Room) ad (MF cy ad cn u w x) [.ref (ad 0), .int ch] (fun v ad' f' => v = none ∧ ad = ad' ∧ MF cy ad cn (va_up u 0 (upd (upd (u 0) 27 (if u 0 26 = 0 then ch else u 0 27)) 26 (u 0 26 - nI 1))) w x = f') := by
  refine ct_of (by decide +kernel) (Nat.le_of_ble_eq_true rfl) ?_
  intro p e s m args below meth c X hnm
  refine z_lv (lv' := [(0, .ref (ad 0)), (1, .int ch)]) [0, 1] rfl ?_
  refine z_aload_n X 0 dX4_say_0 rfl rfl ?_
  refine z_aload_n X 0 dX4_say_1 rfl rfl ?_
  refine z_get X (v := .int (u 0 26)) 0 26 wa_X4 rfl rfl rfl (by decide) q_585 rfl rfl dX4_say_2 ?_
  refine z_if_ne X (tgt := 12) dX4_say_5 (by decide) (fun c5 => ?_) (fun c5 => ?_)
  · refine z_aload_n X 0 dX4_say_12 rfl rfl ?_
    refine z_get X (v := .int (u 0 27)) 0 27 wa_X4 rfl rfl rfl (by decide) q_586 rfl rfl dX4_say_13 ?_
    refine z_put X (ty := .int) 0 27 wa_X4 tyX4 tyX4_ok nmX4 rfl rfl rfl (by decide) q_586 rfl rfl (by decide +kernel) rfl rfl (Nat.le_of_ble_eq_true rfl) dX4_say_16 ?_
    refine z_f (MF_o (cn' := cn) (g := upd (u 0) 27 (u 0 27)) rfl) ?_
    refine z_aload_n X 0 dX4_say_19 rfl rfl ?_
    refine z_dup X dX4_say_20 rfl ?_
    refine z_get X (v := .int (u 0 26)) 0 26 wa_X4 rfl rfl rfl (by decide) q_585 rfl rfl dX4_say_21 ?_
    refine z_iconst X (v := nI 1) dX4_say_24 (by decide) ?_
    refine z_isub X dX4_say_25 ?_
    refine z_put X (ty := .int) 0 26 wa_X4 tyX4 tyX4_ok nmX4 rfl rfl rfl (by decide) q_585 rfl rfl (by decide +kernel) rfl rfl (Nat.le_of_ble_eq_true rfl) dX4_say_26 ?_
    refine z_f (MF_o (cn' := cn) (g := upd (upd (u 0) 27 (u 0 27)) 26 ((u 0 26) - (nI 1))) rfl) ?_
    refine z_f (congrArg (fun z => MF cy ad cn z w x) (show va_up (va_up u 0 (upd (u 0) 27 (u 0 27))) 0 (upd (upd (u 0) 27 (u 0 27)) 26 ((u 0 26) - (nI 1))) = va_up u 0 (upd (upd (u 0) 27 (u 0 27)) 26 ((u 0 26) - (nI 1))) from by (try simp only [upd_uu, vfu_uu, vpu_uu]); funext z9; simp only [va_up]; (repeat' split) <;> first | rfl | omega | simp_all)) ?_
    refine z_vret X (Nat.le_of_ble_eq_true rfl) (Nat.le_of_ble_eq_true rfl) ?_ dX4_say_29
    exact ⟨rfl, rfl, by rw [if_neg c5]⟩
  · refine z_iload_n X 1 dX4_say_8 rfl rfl ?_
    refine z_goto X (tgt := 16) dX4_say_9 (by decide) ?_
    refine z_put X (ty := .int) 0 27 wa_X4 tyX4 tyX4_ok nmX4 rfl rfl rfl (by decide) q_586 rfl rfl (by decide +kernel) rfl rfl (Nat.le_of_ble_eq_true rfl) dX4_say_16 ?_
    refine z_f (MF_o (cn' := cn) (g := upd (u 0) 27 ch) rfl) ?_
    refine z_aload_n X 0 dX4_say_19 rfl rfl ?_
    refine z_dup X dX4_say_20 rfl ?_
    refine z_get X (v := .int (u 0 26)) 0 26 wa_X4 rfl rfl rfl (by decide) q_585 rfl rfl dX4_say_21 ?_
    refine z_iconst X (v := nI 1) dX4_say_24 (by decide) ?_
    refine z_isub X dX4_say_25 ?_
    refine z_put X (ty := .int) 0 26 wa_X4 tyX4 tyX4_ok nmX4 rfl rfl rfl (by decide) q_585 rfl rfl (by decide +kernel) rfl rfl (Nat.le_of_ble_eq_true rfl) dX4_say_26 ?_
    refine z_f (MF_o (cn' := cn) (g := upd (upd (u 0) 27 ch) 26 ((u 0 26) - (nI 1))) rfl) ?_
    refine z_f (congrArg (fun z => MF cy ad cn z w x) (show va_up (va_up u 0 (upd (u 0) 27 ch)) 0 (upd (upd (u 0) 27 ch) 26 ((u 0 26) - (nI 1))) = va_up u 0 (upd (upd (u 0) 27 ch) 26 ((u 0 26) - (nI 1))) from by (try simp only [upd_uu, vfu_uu, vpu_uu]); funext z9; simp only [va_up]; (repeat' split) <;> first | rfl | omega | simp_all)) ?_
    refine z_vret X (Nat.le_of_ble_eq_true rfl) (Nat.le_of_ble_eq_true rfl) ?_ dX4_say_29
    exact ⟨rfl, rfl, by rw [if_pos (by simpa using c5)]⟩
theorem m_sayT (l : Launch) (G : va_G) (cy : Nat → ClassId) (B : Nat) (ad : Nat → Nat) (cn : Nat → Nat) (u : Nat → Nat → Int32) (w : Nat → Nat → Int64) (x : Nat → Nat → UInt64) (T : Nat → Nat) (i p : Nat) (hi : i < 2 ^ 31) (hp : p < 2 ^ 31) (ch : Int32) (h : ch = nI (T p)) : Ct l G cy B yX4_say cX4_say 2 none ({ frames := 0, cells := 0, slots := 0, locals := 0 } : Room) ad (MF cy ad cn (sayU u T i p) w x) [.ref (ad 0), .int ch] (fun v ad' f' => v = none ∧ ad = ad' ∧ MF cy ad cn (sayU u T i (p + 1)) w x = f') := by
  have h9 := m_say l G cy B ad cn (sayU u T i p) w x ch
  rw [sayU_next hi hp h] at h9
  exact h9
set_option maxHeartbeats 4000000 in
set_option maxRecDepth 100000 in
theorem m_sayNumber (l : Launch) (G : va_G) (cy : Nat → ClassId) (B : Nat) (ad : Nat → Nat) (cn : Nat → Nat) (u : Nat → Nat → Int32) (w : Nat → Nat → Int64) (x : Nat → Nat → UInt64) (T : Nat → Nat) (i pp : Nat) (hi : i < 2 ^ 31) (hp : pp < 100) (n : Nat) (hn : n < 10 ^ 9) (hT : ∀ a, a < sb_dg n → T (pp + a) = sb_dec n a) : Ct l G cy B yX4_sayNumber cX4_sayNumber 5 none ({ frames := 1, cells := 0, slots := 0, locals := 21 } : Room) ad (MF cy ad cn (sayU u T i pp) w x) [.ref (ad 0), .long (lN n)] (fun v ad' f' => v = none ∧ ad = ad' ∧ MF cy ad cn (sayU u T i (pp + sb_dg n)) w x = f') := by
  refine ct_of (by decide +kernel) (Nat.le_of_ble_eq_true rfl) ?_
  intro p e s m args below meth c X hnm
  have hd9 := dg_le9 hn
  refine z_lv (lv' := [(0, .ref (ad 0)), (1, .long (lN n))]) [0, 1] rfl ?_
  refine z_lconst X (v := 1) dX4_sayNumber_0 rfl ?_
  refine z_lstore_n X (lv' := [(3, .long 1), (0, .ref (ad 0)), (1, .long (lN n))]) dX4_sayNumber_1 rfl (by decide) rfl ?_
  refine z_lv (lv' := [(0, .ref (ad 0)), (1, .long (lN n)), (3, .long 1)]) [1, 2, 0] rfl ?_
  have lp2 : ∀ (fu2 : Nat) (k : Nat), (k < 9) → (k + 1 ≤ sb_dg n) → 10 ≤ k + fu2 → Z G B 5 ad (MF cy ad cn (sayU u T i pp) w x) p l e ({ frames := 1, cells := 0, slots := 0, locals := 21 } : Room) s m args below meth c (zEnd G B ad (MF cy ad cn (sayU u T i pp) w x) below args s ({ frames := 1, cells := 0, slots := 0, locals := 21 } : Room) (fun v ad' f' => v = none ∧ ad = ad' ∧ MF cy ad cn (sayU u T i (pp + sb_dg n)) w x = f')) ad (MF cy ad cn (sayU u T i pp) w x) 0 0 2 [(0, .ref (ad 0)), (1, .long (lN n)), (3, .long (lN (10 ^ k)))] [] := by
    intro fu2
    induction fu2 with
    | zero => intro k hk hk2 hm2; exact absurd hm2 (by omega)
    | succ fu2 ih2 =>
      intro k hk hk2 hm2
      refine z_lload_n X 1 dX4_sayNumber_2 rfl rfl ?_
      refine z_lload_n X 2 dX4_sayNumber_3 rfl rfl ?_
      refine z_ldiv X dX4_sayNumber_4 (by exact lN_pw0 hk) ?_
      refine z_top (v' := .long (lN (n / 10 ^ k))) (by rw [lN_dv hn hk]) ?_
      refine z_ldc2 X dX4_sayNumber_5 q_783 ?_
      refine z_lcmp_le X (tgt := 21) dX4_sayNumber_8 dX4_sayNumber_9 (by decide) (fun c8 => ?_) (fun c8 => ?_)
      · refine z_lv (lv' := [(0, .ref (ad 0)), (1, .long (lN n)), (3, .long (lN (10 ^ k)))]) [0, 1, 2] rfl ?_
        have lp21 : ∀ (fu21 : Nat) (r : Nat), (r ≤ sb_dg n) → (r ≤ 9) → r < fu21 → Z G B 5 ad (MF cy ad cn (sayU u T i pp) w x) p l e ({ frames := 1, cells := 0, slots := 0, locals := 21 } : Room) s m args below meth c (zEnd G B ad (MF cy ad cn (sayU u T i pp) w x) below args s ({ frames := 1, cells := 0, slots := 0, locals := 21 } : Room) (fun v ad' f' => v = none ∧ ad = ad' ∧ MF cy ad cn (sayU u T i (pp + sb_dg n)) w x = f')) ad (MF cy ad cn (sayU u T i (pp + (sb_dg n - r))) w x) 0 0 21 [(0, .ref (ad 0)), (1, .long (lN n)), (3, .long (lN (byN r)))] [] := by
          intro fu21
          induction fu21 with
          | zero => intro r he he9 hm21; exact absurd hm21 (by omega)
          | succ fu21 ih21 =>
            intro r he he9 hm21
            refine z_lload_n X 2 dX4_sayNumber_21 rfl rfl ?_
            refine z_lconst X (v := 0) dX4_sayNumber_22 rfl ?_
            refine z_lcmp_le X (tgt := 52) dX4_sayNumber_23 dX4_sayNumber_24 (by decide) (fun c23 => ?_) (fun c23 => ?_)
            · refine z_vret X (Nat.le_of_ble_eq_true rfl) (Nat.le_of_ble_eq_true rfl) ?_ dX4_sayNumber_52
              have h8 : r = 0 := by
                rcases Nat.eq_zero_or_pos r with h | h
                · exact h
                · exact absurd c23 (byN_n h he9)
              exact ⟨rfl, rfl, by rw [show pp + (sb_dg n - r) = pp + sb_dg n by omega]⟩
            · have he0 : 0 < r := by
                  rcases Nat.eq_zero_or_pos r with h | h
                  · subst h; exact absurd (by decide) c23
                  · exact h
              refine z_aload_n X 0 dX4_sayNumber_27 rfl rfl ?_
              refine z_ldc2 X dX4_sayNumber_28 q_785 ?_
              refine z_lload_n X 1 dX4_sayNumber_31 rfl rfl ?_
              refine z_lload_n X 2 dX4_sayNumber_32 rfl rfl ?_
              refine z_ldiv X dX4_sayNumber_33 (by exact byN_0 he0 he9) ?_
              refine z_ldc2 X dX4_sayNumber_34 q_784 ?_
              refine z_lrem X dX4_sayNumber_37 (by decide) ?_
              refine z_ladd X dX4_sayNumber_38 ?_
              refine z_l2i X dX4_sayNumber_39 ?_
              refine z_top (v' := .int (nI (48 + n / 10 ^ (r - 1) % 10))) (by rw [dig_v' hn he0 he9]) ?_
              refine z_callV X (n := 1) (As := [.int (nI (48 + n / 10 ^ (r - 1) % 10))]) (rest := []) 0 rfl rfl rfl (m_sayT l G cy B ad cn u w x T i (pp + (sb_dg n - r)) hi (by omega) (nI (48 + n / 10 ^ (r - 1) % 10)) (by rw [hT (sb_dg n - r) (by omega)]; unfold sb_dec; rw [show sb_dg n - 1 - (sb_dg n - r) = r - 1 by omega])) q_777 q_778 q_21 q_29 q_779 (by decide +kernel) ⟨Nat.le_of_ble_eq_true rfl, Nat.le_of_ble_eq_true rfl⟩ rfl rfl (Nat.le_of_ble_eq_true rfl) dX4_sayNumber_40 ⟨Nat.le_of_ble_eq_true rfl, Nat.le_of_ble_eq_true rfl⟩ (fun v ad' f' hp had => ?_)
              obtain ⟨rfl, rfl, rfl⟩ := hp
              refine z_st (st' := []) rfl ?_
              refine z_lload_n X 2 dX4_sayNumber_43 rfl rfl ?_
              refine z_ldc2 X dX4_sayNumber_44 q_784 ?_
              refine z_ldiv X dX4_sayNumber_47 (by decide) ?_
              refine z_top (v' := .long (lN (byN (r - 1)))) (by rw [byN_d' he0 he9]) ?_
              refine z_lstore_n X (lv' := [(3, .long (lN (byN (r - 1)))), (0, .ref (ad 0)), (1, .long (lN n))]) dX4_sayNumber_48 rfl (by decide) rfl ?_
              refine z_goto X (tgt := 21) dX4_sayNumber_49 (by decide) ?_
              refine z_lv (lv' := [(0, .ref (ad 0)), (1, .long (lN n)), (3, .long (lN (byN (r - 1))))]) [1, 2, 0] rfl ?_
              refine z_f (show MF cy ad cn (sayU u T i (pp + (sb_dg n - r) + 1)) w x = MF cy ad cn (sayU u T i (pp + (sb_dg n - (r - 1)))) w x from by rw [show pp + (sb_dg n - (r - 1)) = pp + (sb_dg n - r) + 1 by omega]) ?_
              exact ih21 (r - 1) (by omega) (by omega) (by omega)
        have h8 : sb_dg n = k + 1 := by have h1 := (dg_iff hn hk).mp ((lN_9 (Nat.lt_of_le_of_lt (Nat.div_le_self _ _) (by omega))).mp c8); omega
        refine z_lv (lv' := [(0, .ref (ad 0)), (1, .long (lN n)), (3, .long (lN (byN (k + 1))))]) [0, 1, 2] (by rw [byN_s]; rfl) ?_
        refine z_f (show MF cy ad cn (sayU u T i pp) w x = MF cy ad cn (sayU u T i (pp + (sb_dg n - (k + 1)))) w x from by rw [show pp + (sb_dg n - (k + 1)) = pp by omega]) ?_
        exact lp21 10 (k + 1) (by omega) (by omega) (by omega)
      · refine z_lload_n X 2 dX4_sayNumber_12 rfl rfl ?_
        refine z_ldc2 X dX4_sayNumber_13 q_784 ?_
        refine z_lmul X dX4_sayNumber_16 ?_
        refine z_top (v' := .long (lN (10 ^ (k + 1)))) (by rw [lN_pw]) ?_
        refine z_lstore_n X (lv' := [(3, .long (lN (10 ^ (k + 1)))), (0, .ref (ad 0)), (1, .long (lN n))]) dX4_sayNumber_17 rfl (by decide) rfl ?_
        refine z_goto X (tgt := 2) dX4_sayNumber_18 (by decide) ?_
        refine z_lv (lv' := [(0, .ref (ad 0)), (1, .long (lN n)), (3, .long (lN (10 ^ (k + 1))))]) [1, 2, 0] rfl ?_
        exact ih2 (k + 1) (by have h1 : ¬ sb_dg n ≤ k + 1 := fun h => c8 ((lN_9 (Nat.lt_of_le_of_lt (Nat.div_le_self _ _) (by omega))).mpr ((dg_iff hn hk).mpr h)); have h2 := dg_le9 hn; omega) (by have h1 : ¬ sb_dg n ≤ k + 1 := fun h => c8 ((lN_9 (Nat.lt_of_le_of_lt (Nat.div_le_self _ _) (by omega))).mpr ((dg_iff hn hk).mpr h)); omega) (by omega)
  exact lp2 10 0 (by decide) (sb_dg_in n).1 (by decide)
set_option maxHeartbeats 4000000 in
set_option maxRecDepth 100000 in
theorem m_label_i (l : Launch) (G : va_G) (cy : Nat → ClassId) (B : Nat) (ad : Nat → Nat) (cn : Nat → Nat) (u : Nat → Nat → Int32) (w : Nat → Nat → Int64) (x : Nat → Nat → UInt64) (hc0 : cn 0 ≤ 200) (hc5 : cn 5 ≤ 12) (j : Nat) (hj : j < cn 5) (T : Nat → Nat) (W i : Nat) (hi : i < 2 ^ 31) (hW : weightM cn u w j = lN W) (hW9 : W < 10 ^ 9) (hT0 : T 0 = 66) (hT1 : ∀ a, a < sb_dg j → T (1 + a) = sb_dec j a) (hT2 : T (1 + sb_dg j) = 32) (hT3 : ∀ a, a < sb_dg W → T (1 + sb_dg j + 1 + a) = sb_dec W a) (hT4 : T (1 + sb_dg j + 1 + sb_dg W) = 32) (hT5 : ∀ a, a < sb_dg (mainM cn u w j) → T (1 + sb_dg j + 1 + sb_dg W + 1 + a) = sb_dec (mainM cn u w j) a) : Ct l G cy B yX4_label cX4_label 3 (some .int) ({ frames := 3, cells := 0, slots := 0, locals := 73 } : Room) ad (MF cy ad cn u w x) [.ref (ad 0), .int (nI j), .int (nI i)] (fun v ad' f' => v = some (.int (lookS T i (1 + sb_dg j + 1 + sb_dg W + 1 + sb_dg (mainM cn u w j)))) ∧ ad = ad' ∧ MF cy ad cn (sayU u T i (1 + sb_dg j + 1 + sb_dg W + 1 + sb_dg (mainM cn u w j))) w x = f') := by
  refine ct_of (by decide +kernel) (Nat.le_of_ble_eq_true rfl) ?_
  intro p e s m args below meth c X hnm
  have d1 := sb_dg_in j
  have d2 := sb_dg_in W
  have d3 := sb_dg_in (mainM cn u w j)
  have d4 : mainM cn u w j ≤ 3 := mainL_le _ 3
  refine z_lv (lv' := [(0, .ref (ad 0)), (1, .int (nI j)), (2, .int (nI i))]) [0, 1, 2] rfl ?_
  refine z_aload_n X 0 dX4_label_0 rfl rfl ?_
  refine z_iload_n X 1 dX4_label_1 rfl rfl ?_
  refine z_callV X (n := 1) (As := [.int (nI j)]) (rest := []) 0 rfl rfl rfl (m_isBale l G cy B ad cn u w x (nI j)) q_668 q_669 q_14 q_29 q_670 (by decide +kernel) ⟨Nat.le_of_ble_eq_true rfl, Nat.le_of_ble_eq_true rfl⟩ rfl rfl (Nat.le_of_ble_eq_true rfl) dX4_label_2 ⟨Nat.le_of_ble_eq_true rfl, Nat.le_of_ble_eq_true rfl⟩ (fun v ad' f' hp had => ?_)
  obtain ⟨rfl, rfl, rfl⟩ := hp
  refine z_st (st' := [.int (nI (if ¬ (nI j) < 0 ∧ ¬ nI (cn 5) ≤ (nI j) then 1 else 0))]) rfl ?_
  refine z_if_eqB X (tgt := 12) dX4_label_5 (by decide) (fun c5 => by exfalso; exact c5 ⟨nI_pos (by omega), nI_ge (by omega) (by omega)⟩) (fun c5 => ?_)
  refine z_iload_n X 2 dX4_label_8 rfl rfl ?_
  refine z_if_geN X (tgt := 14) (by omega) dX4_label_9 (by decide) ?_
  refine z_aload_n X 0 dX4_label_14 rfl rfl ?_
  refine z_iload_n X 2 dX4_label_15 rfl rfl ?_
  refine z_put X (ty := .int) 0 26 wa_X4 tyX4 tyX4_ok nmX4 rfl rfl rfl (by decide) q_585 rfl rfl (by decide +kernel) rfl rfl (Nat.le_of_ble_eq_true rfl) dX4_label_16 ?_
  refine z_f (MF_o (cn' := cn) (g := upd (u 0) 26 (nI i)) rfl) ?_
  refine z_aload_n X 0 dX4_label_19 rfl rfl ?_
  refine z_iconst X (v := -1) dX4_label_20 (by decide) ?_
  refine z_put X (ty := .int) 0 27 wa_X4 tyX4 tyX4_ok nmX4 rfl rfl rfl (by decide) q_586 rfl rfl (by decide +kernel) rfl rfl (Nat.le_of_ble_eq_true rfl) dX4_label_21 ?_
  refine z_f (MF_o (cn' := cn) (g := upd (upd (u 0) 26 (nI i)) 27 (-1)) rfl) ?_
  refine z_f (congrArg (fun z => MF cy ad cn z w x) (show va_up (va_up u 0 (upd (u 0) 26 (nI i))) 0 (upd (upd (u 0) 26 (nI i)) 27 (-1)) = va_up u 0 (upd (upd (u 0) 26 (nI i)) 27 (-1)) from by (try simp only [upd_uu, vfu_uu, vpu_uu]); funext z9; simp only [va_up]; (repeat' split) <;> first | rfl | omega | simp_all)) ?_
  refine z_f (show MF cy ad cn (va_up u 0 (upd (upd (u 0) 26 (nI i)) 27 (-1))) w x = MF cy ad cn (sayU u T i 0) w x from by rw [sayU_start]) ?_
  refine z_aload_n X 0 dX4_label_24 rfl rfl ?_
  refine z_bipush X (v := nI 66) dX4_label_25 (by decide) ?_
  refine z_callV X (n := 1) (As := [.int (nI 66)]) (rest := []) 0 rfl rfl rfl (m_sayT l G cy B ad cn u w x T i 0 hi (by omega) (nI 66) (by rw [hT0])) q_777 q_778 q_21 q_29 q_779 (by decide +kernel) ⟨Nat.le_of_ble_eq_true rfl, Nat.le_of_ble_eq_true rfl⟩ rfl rfl (Nat.le_of_ble_eq_true rfl) dX4_label_27 ⟨Nat.le_of_ble_eq_true rfl, Nat.le_of_ble_eq_true rfl⟩ (fun v ad' f' hp had => ?_)
  obtain ⟨rfl, rfl, rfl⟩ := hp
  refine z_st (st' := []) rfl ?_
  refine z_aload_n X 0 dX4_label_30 rfl rfl ?_
  refine z_iload_n X 1 dX4_label_31 rfl rfl ?_
  refine z_i2lN X (by omega) dX4_label_32 ?_
  refine z_callV X (n := 1) (As := [.long (lN j)]) (rest := []) 0 rfl rfl rfl (m_sayNumber l G cy B ad cn u w x T i 1 hi (by omega) j (by omega) hT1) q_780 q_781 q_22 q_29 q_782 (by decide +kernel) ⟨Nat.le_of_ble_eq_true rfl, Nat.le_of_ble_eq_true rfl⟩ rfl rfl (Nat.le_of_ble_eq_true rfl) dX4_label_33 ⟨Nat.le_of_ble_eq_true rfl, Nat.le_of_ble_eq_true rfl⟩ (fun v ad' f' hp had => ?_)
  obtain ⟨rfl, rfl, rfl⟩ := hp
  refine z_st (st' := []) rfl ?_
  refine z_aload_n X 0 dX4_label_36 rfl rfl ?_
  refine z_bipush X (v := nI 32) dX4_label_37 (by decide) ?_
  refine z_callV X (n := 1) (As := [.int (nI 32)]) (rest := []) 0 rfl rfl rfl (m_sayT l G cy B ad cn u w x T i (1 + sb_dg j) hi (by omega) (nI 32) (by rw [hT2])) q_777 q_778 q_21 q_29 q_779 (by decide +kernel) ⟨Nat.le_of_ble_eq_true rfl, Nat.le_of_ble_eq_true rfl⟩ rfl rfl (Nat.le_of_ble_eq_true rfl) dX4_label_39 ⟨Nat.le_of_ble_eq_true rfl, Nat.le_of_ble_eq_true rfl⟩ (fun v ad' f' hp had => ?_)
  obtain ⟨rfl, rfl, rfl⟩ := hp
  refine z_st (st' := []) rfl ?_
  refine z_aload_n X 0 dX4_label_42 rfl rfl ?_
  refine z_aload_n X 0 dX4_label_43 rfl rfl ?_
  refine z_iload_n X 1 dX4_label_44 rfl rfl ?_
  refine z_callV X (n := 1) (As := [.int (nI j)]) (rest := [.ref (ad 0)]) 0 rfl rfl rfl (m_weight l G cy B ad cn (sayU u T i (1 + sb_dg j + 1)) w x hc0 j (by omega)) q_686 q_687 q_17 q_29 q_688 (by decide +kernel) ⟨Nat.le_of_ble_eq_true rfl, Nat.le_of_ble_eq_true rfl⟩ rfl rfl (Nat.le_of_ble_eq_true rfl) dX4_label_45 ⟨Nat.le_of_ble_eq_true rfl, Nat.le_of_ble_eq_true rfl⟩ (fun v ad' f' hp had => ?_)
  obtain ⟨rfl, rfl, rfl⟩ := hp
  refine z_st (st' := [.long (weightM cn (sayU u T i (1 + sb_dg j + 1)) w j), .ref (ad 0)]) rfl ?_
  refine z_top (v' := .long (lN W)) (by rw [weightM_say, hW]) ?_
  refine z_callV X (n := 1) (As := [.long (lN W)]) (rest := []) 0 rfl rfl rfl (m_sayNumber l G cy B ad cn u w x T i (1 + sb_dg j + 1) hi (by omega) W hW9 hT3) q_780 q_781 q_22 q_29 q_782 (by decide +kernel) ⟨Nat.le_of_ble_eq_true rfl, Nat.le_of_ble_eq_true rfl⟩ rfl rfl (Nat.le_of_ble_eq_true rfl) dX4_label_48 ⟨Nat.le_of_ble_eq_true rfl, Nat.le_of_ble_eq_true rfl⟩ (fun v ad' f' hp had => ?_)
  obtain ⟨rfl, rfl, rfl⟩ := hp
  refine z_st (st' := []) rfl ?_
  refine z_aload_n X 0 dX4_label_51 rfl rfl ?_
  refine z_bipush X (v := nI 32) dX4_label_52 (by decide) ?_
  refine z_callV X (n := 1) (As := [.int (nI 32)]) (rest := []) 0 rfl rfl rfl (m_sayT l G cy B ad cn u w x T i (1 + sb_dg j + 1 + sb_dg W) hi (by omega) (nI 32) (by rw [hT4])) q_777 q_778 q_21 q_29 q_779 (by decide +kernel) ⟨Nat.le_of_ble_eq_true rfl, Nat.le_of_ble_eq_true rfl⟩ rfl rfl (Nat.le_of_ble_eq_true rfl) dX4_label_54 ⟨Nat.le_of_ble_eq_true rfl, Nat.le_of_ble_eq_true rfl⟩ (fun v ad' f' hp had => ?_)
  obtain ⟨rfl, rfl, rfl⟩ := hp
  refine z_st (st' := []) rfl ?_
  refine z_aload_n X 0 dX4_label_57 rfl rfl ?_
  refine z_aload_n X 0 dX4_label_58 rfl rfl ?_
  refine z_iload_n X 1 dX4_label_59 rfl rfl ?_
  refine z_callV X (n := 1) (As := [.int (nI j)]) (rest := [.ref (ad 0)]) 0 rfl rfl rfl (m_mainOf l G cy B ad cn (sayU u T i (1 + sb_dg j + 1 + sb_dg W + 1)) w x hc0 j (by omega)) q_739 q_740 q_18 q_29 q_741 (by decide +kernel) ⟨Nat.le_of_ble_eq_true rfl, Nat.le_of_ble_eq_true rfl⟩ rfl rfl (Nat.le_of_ble_eq_true rfl) dX4_label_60 ⟨Nat.le_of_ble_eq_true rfl, Nat.le_of_ble_eq_true rfl⟩ (fun v ad' f' hp had => ?_)
  obtain ⟨rfl, rfl, rfl⟩ := hp
  refine z_st (st' := [.int (nI (mainM cn (sayU u T i (1 + sb_dg j + 1 + sb_dg W + 1)) w j)), .ref (ad 0)]) rfl ?_
  refine z_top (v' := .int (nI (mainM cn u w j))) (by rw [mainM_say]) ?_
  refine z_i2lN X (by omega) dX4_label_63 ?_
  refine z_callV X (n := 1) (As := [.long (lN (mainM cn u w j))]) (rest := []) 0 rfl rfl rfl (m_sayNumber l G cy B ad cn u w x T i (1 + sb_dg j + 1 + sb_dg W + 1) hi (by omega) (mainM cn u w j) (by omega) hT5) q_780 q_781 q_22 q_29 q_782 (by decide +kernel) ⟨Nat.le_of_ble_eq_true rfl, Nat.le_of_ble_eq_true rfl⟩ rfl rfl (Nat.le_of_ble_eq_true rfl) dX4_label_64 ⟨Nat.le_of_ble_eq_true rfl, Nat.le_of_ble_eq_true rfl⟩ (fun v ad' f' hp had => ?_)
  obtain ⟨rfl, rfl, rfl⟩ := hp
  refine z_st (st' := []) rfl ?_
  refine z_aload_n X 0 dX4_label_67 rfl rfl ?_
  refine z_get X (v := .int (sayU u T i (1 + sb_dg j + 1 + sb_dg W + 1 + sb_dg (mainM cn u w j)) 0 27)) 0 27 wa_X4 rfl rfl rfl (by decide) q_586 rfl rfl dX4_label_68 ?_
  refine z_iret X (Nat.le_of_ble_eq_true rfl) (Nat.le_of_ble_eq_true rfl) ?_ dX4_label_71
  exact ⟨by rw [sayU_27], rfl, rfl⟩
set_option maxHeartbeats 4000000 in
set_option maxRecDepth 100000 in
theorem m_label_n (l : Launch) (G : va_G) (cy : Nat → ClassId) (B : Nat) (ad : Nat → Nat) (cn : Nat → Nat) (u : Nat → Nat → Int32) (w : Nat → Nat → Int64) (x : Nat → Nat → UInt64) (hc5 : cn 5 ≤ 12) (j : Nat) (hj : j < cn 5) (k : Int32) (hk : k < 0) : Ct l G cy B yX4_label cX4_label 3 (some .int) ({ frames := 1, cells := 0, slots := 0, locals := 21 } : Room) ad (MF cy ad cn u w x) [.ref (ad 0), .int (nI j), .int k] (fun v ad' f' => v = some (.int (-1)) ∧ ad = ad' ∧ MF cy ad cn u w x = f') := by
  refine ct_of (by decide +kernel) (Nat.le_of_ble_eq_true rfl) ?_
  intro p e s m args below meth c X hnm
  refine z_lv (lv' := [(0, .ref (ad 0)), (1, .int (nI j)), (2, .int k)]) [0, 1, 2] rfl ?_
  refine z_aload_n X 0 dX4_label_0 rfl rfl ?_
  refine z_iload_n X 1 dX4_label_1 rfl rfl ?_
  refine z_callV X (n := 1) (As := [.int (nI j)]) (rest := []) 0 rfl rfl rfl (m_isBale l G cy B ad cn u w x (nI j)) q_668 q_669 q_14 q_29 q_670 (by decide +kernel) ⟨Nat.le_of_ble_eq_true rfl, Nat.le_of_ble_eq_true rfl⟩ rfl rfl (Nat.le_of_ble_eq_true rfl) dX4_label_2 ⟨Nat.le_of_ble_eq_true rfl, Nat.le_of_ble_eq_true rfl⟩ (fun v ad' f' hp had => ?_)
  obtain ⟨rfl, rfl, rfl⟩ := hp
  refine z_st (st' := [.int (nI (if ¬ (nI j) < 0 ∧ ¬ nI (cn 5) ≤ (nI j) then 1 else 0))]) rfl ?_
  refine z_if_eqB X (tgt := 12) dX4_label_5 (by decide) (fun c5 => by exfalso; exact c5 ⟨nI_pos (by omega), nI_ge (by omega) (by omega)⟩) (fun c5 => ?_)
  refine z_iload_n X 2 dX4_label_8 rfl rfl ?_
  refine z_if_ge X (tgt := 14) dX4_label_9 (by decide) (fun c9 => by exfalso; exact absurd hk (Int32.not_lt.mpr c9)) (fun c9 => ?_)
  refine z_iconst X (v := -1) dX4_label_12 (by decide) ?_
  refine z_iret X (Nat.le_of_ble_eq_true rfl) (Nat.le_of_ble_eq_true rfl) ?_ dX4_label_13
  exact ⟨rfl, rfl, rfl⟩
set_option maxHeartbeats 4000000 in
set_option maxRecDepth 100000 in
theorem m_label_o (l : Launch) (G : va_G) (cy : Nat → ClassId) (B : Nat) (ad : Nat → Nat) (cn : Nat → Nat) (u : Nat → Nat → Int32) (w : Nat → Nat → Int64) (x : Nat → Nat → UInt64) (b : Int32) (hb : ¬ (¬ b < 0 ∧ ¬ nI (cn 5) ≤ b)) (k : Int32) : Ct l G cy B yX4_label cX4_label 3 (some .int) ({ frames := 1, cells := 0, slots := 0, locals := 21 } : Room) ad (MF cy ad cn u w x) [.ref (ad 0), .int b, .int k] (fun v ad' f' => v = some (.int (-1)) ∧ ad = ad' ∧ MF cy ad cn u w x = f') := by
  refine ct_of (by decide +kernel) (Nat.le_of_ble_eq_true rfl) ?_
  intro p e s m args below meth c X hnm
  refine z_lv (lv' := [(0, .ref (ad 0)), (1, .int b), (2, .int k)]) [0, 1, 2] rfl ?_
  refine z_aload_n X 0 dX4_label_0 rfl rfl ?_
  refine z_iload_n X 1 dX4_label_1 rfl rfl ?_
  refine z_callV X (n := 1) (As := [.int b]) (rest := []) 0 rfl rfl rfl (m_isBale l G cy B ad cn u w x b) q_668 q_669 q_14 q_29 q_670 (by decide +kernel) ⟨Nat.le_of_ble_eq_true rfl, Nat.le_of_ble_eq_true rfl⟩ rfl rfl (Nat.le_of_ble_eq_true rfl) dX4_label_2 ⟨Nat.le_of_ble_eq_true rfl, Nat.le_of_ble_eq_true rfl⟩ (fun v ad' f' hp had => ?_)
  obtain ⟨rfl, rfl, rfl⟩ := hp
  refine z_st (st' := [.int (nI (if ¬ b < 0 ∧ ¬ nI (cn 5) ≤ b then 1 else 0))]) rfl ?_
  refine z_if_eqB X (tgt := 12) dX4_label_5 (by decide) (fun c5 => ?_) (fun c5 => by exfalso; exact hb c5)
  refine z_iconst X (v := -1) dX4_label_12 (by decide) ?_
  refine z_iret X (Nat.le_of_ble_eq_true rfl) (Nat.le_of_ble_eq_true rfl) ?_ dX4_label_13
  exact ⟨rfl, rfl, rfl⟩
