def sF (g h : Int32) : Nat → Int32
  | 0 => g
  | _ => h
def lF (a b : Int64) : Nat → Int64
  | 0 => a
  | 1 => b
  | _ => 0
def nU : Nat → Int32
  | 4 => nI 0
  | 5 => -1
  | _ => 0
def nX : Nat → UInt64 := fun _ => 4626322717216342016
def nR : Nat → Option Nat := fun _ => none
def nwC (cn : Nat → Nat) : Nat → Nat := va_up cn 30 (cn 6 + 1)
def nwU (u : Nat → Nat → Int32) (k : Nat) : Nat → Nat → Int32 := va_up u k nU
def nwX (x : Nat → Nat → UInt64) (k : Nat) : Nat → Nat → UInt64 := va_up x k nX
def nwR (r : Nat → Nat → Option Nat) (k : Nat) : Nat → Nat → Option Nat := va_up r k nR
def rPair (a b : Nat) : Nat → Option Nat
  | 7 => some a
  | _ => some b
def gAcc (k2 : Nat → Int32) (g3 : Nat → Int64) (a : Nat) : Nat → Nat → Int64
  | 0 => fun _ => 0
  | n + 1 => vp_updL (gAcc k2 g3 a n) (k2 (a + n)).toNatClampNeg (gAcc k2 g3 a n (k2 (a + n)).toNatClampNeg + g3 (a + n))
abbrev okStackC (cn : Nat → Nat) (g h : Int32) : Prop := cn 12 < 4 ∧ (0 ≤ g.toInt64 ∧ g.toInt64 ≤ 3) ∧ (1 ≤ h.toInt64 ∧ h.toInt64 ≤ 6)
abbrev okLorryC (cn : Nat → Nat) (a b : Int64) : Prop := cn 14 < 3 ∧ (0 ≤ a ∧ a ≤ 100000000) ∧ (0 ≤ b ∧ b ≤ 100000000)
abbrev okBaleC (cn : Nat → Nat) (w : Nat → Nat → Int64) (sc : Int64) : Prop := cn 6 < 12 ∧ scanF (fun f => decide (¬ w 1 (cn 4 + f) ≤ sc)) (cn 3 - cn 4) 0 ≠ 0
abbrev okRebC (cn : Nat → Nat) (u : Nat → Nat → Int32) (a b : Nat) : Prop := a ≠ b ∧ cn 6 < 12 ∧ u (a + 100) 4 = 0 ∧ u (b + 100) 4 = 0
set_option maxHeartbeats 4000000 in
set_option maxRecDepth 100000 in
theorem p_keepBale (l : Launch) (G : va_G) (cy : Nat → ClassId) (B : Nat) (ad : Nat → Nat) (cn : Nat → Nat) (u : Nat → Nat → Int32) (w : Nat → Nat → Int64) (x : Nat → Nat → UInt64) (r : Nat → Nat → Option Nat) (n : Nat) (hn : cn 6 = n) (h6 : n < 12) (h30 : cn 30 = n + 1) : Ct l G cy B yX3_keepBale cX3_keepBale 2 (some .int) ({ frames := 0, cells := 0, slots := 0, locals := 0 } : Room) ad (CF cy ad cn u w x r) [.ref (ad 0), .ref (ad (n + 100))] (fun v ad' f' => v = some (.int (nI n)) ∧ ad = ad' ∧ CF cy ad (va_up cn 6 (n + 1)) u w x (va_up r 6 (va_up (r 6) n (some (ad (n + 100))))) = f') := by
  refine ct_of (by decide +kernel) (Nat.le_of_ble_eq_true rfl) ?_
  intro p e s m args below meth c X hnm
  refine z_lv (lv' := [(0, .ref (ad 0)), (1, .ref (ad (n + 100)))]) [0, 1] rfl ?_
  refine z_aload_n X 0 dX3_keepBale_0 rfl rfl ?_
  refine z_get X (v := .int (nI (cn 6))) 0 6 wa_X3 rfl rfl (CF_at (k := 0) rfl rfl rfl rfl rfl) (by decide) q_91 rfl rfl dX3_keepBale_1 ?_
  refine z_top (v' := .int (nI n)) (by rw [hn]) ?_
  refine z_bipush X (v := nI 12) dX3_keepBale_4 (by decide) ?_
  refine z_icmp_ltN X (tgt := 11) (by omega) (by omega) dX3_keepBale_6 (by decide) (fun c6 => ?_) (fun c6 => by exfalso; omega)
  refine z_aload_n X 0 dX3_keepBale_11 rfl rfl ?_
  refine z_get X (v := .ref (ad 6)) 0 5 wa_X3 rfl rfl (CF_at (k := 0) rfl rfl rfl rfl rfl) (by decide) q_90 rfl rfl dX3_keepBale_12 ?_
  refine z_aload_n X 0 dX3_keepBale_15 rfl rfl ?_
  refine z_get X (v := .int (nI (cn 6))) 0 6 wa_X3 rfl rfl (CF_at (k := 0) rfl rfl rfl rfl rfl) (by decide) q_91 rfl rfl dX3_keepBale_16 ?_
  refine z_top (v' := .int (nI n)) (by rw [hn]) ?_
  refine z_aload_n X 1 dX3_keepBale_19 rfl rfl ?_
  refine z_aastN X (n := 12) (g := r 6) 6 4 (n + 100) rfl (CF_at (k := 6) rfl rfl rfl rfl rfl) rfl rfl (CF_at (k := n + 100) rfl rfl rfl rfl (cAt_b (i := n) (by omega) (by omega))) rfl (by omega) (by decide) dX3_keepBale_20 ?_
  refine z_f (CFs_r (k := 6) (va_up (r 6) n (some (ad (n + 100)))) rfl rfl rfl rfl) ?_
  refine z_aload_n X 0 dX3_keepBale_21 rfl rfl ?_
  refine z_dup X dX3_keepBale_22 rfl ?_
  refine z_get X (v := .int (nI (cn 6))) 0 6 wa_X3 rfl rfl (CF_at (k := 0) rfl rfl rfl rfl rfl) (by decide) q_91 rfl rfl dX3_keepBale_23 ?_
  refine z_top (v' := .int (nI n)) (by rw [hn]) ?_
  refine z_iconst X (v := nI 1) dX3_keepBale_26 (by decide) ?_
  refine z_iaddN X dX3_keepBale_27 ?_
  refine z_put X (ty := .int) 0 6 wa_X3 tyX3 tyX3_ok nmX3 rfl rfl (CF_at (k := 0) rfl rfl rfl rfl rfl) (by decide) q_91 rfl rfl (by decide +kernel) rfl rfl (Nat.le_of_ble_eq_true rfl) dX3_keepBale_28 ?_
  refine z_f (CF_c (cn' := va_up cn 6 (n + 1)) 0 (Or.inl rfl) rfl rfl rfl rfl (fun _ => rfl) (fun h => absurd h (by decide))) ?_
  refine z_aload_n X 0 dX3_keepBale_31 rfl rfl ?_
  refine z_get X (v := .int (nI (n + 1))) 0 6 wa_X3 rfl rfl (CF_at (k := 0) rfl rfl rfl rfl rfl) (by decide) q_91 rfl rfl dX3_keepBale_32 ?_
  refine z_iconst X (v := nI 1) dX3_keepBale_35 (by decide) ?_
  refine z_isubN X (by omega) dX3_keepBale_36 ?_
  refine z_iret X (Nat.le_of_ble_eq_true rfl) (Nat.le_of_ble_eq_true rfl) ?_ dX3_keepBale_37
  exact ⟨rfl, rfl, rfl⟩
set_option maxHeartbeats 4000000 in
set_option maxRecDepth 100000 in
theorem p_stack (l : Launch) (G : va_G) (cy : Nat → ClassId) (B : Nat) (ad : Nat → Nat) (cn : Nat → Nat) (u : Nat → Nat → Int32) (w : Nat → Nat → Int64) (x : Nat → Nat → UInt64) (r : Nat → Nat → Option Nat) (hI : CI ad cn r) (g h : Int32) : Ct l G cy B yX3_stack cX3_stack 3 (some .int) ({ frames := 2, cells := 1, slots := 2, locals := 34 } : Room) ad (CF cy ad cn u w x r) [.ref (ad 0), .int g, .int h] (fun v ad' f' => v = some (.int (if okStackC cn g h then nI (cn 12) else -1)) ∧ (if okStackC cn g h then ∃ a9, zad ad (cn 12 + 300) a9 = ad' ∧ CF cy ad' (va_up (va_up cn 31 (cn 12 + 1)) 12 (cn 12 + 1)) (va_up u (cn 12 + 300) (sF g h)) w x (va_up r 12 (va_up (r 12) (cn 12) (some (ad' (cn 12 + 300))))) = f' else ad = ad' ∧ CF cy ad cn u w x r = f')) := by
  refine ct_of (by decide +kernel) (Nat.le_of_ble_eq_true rfl) ?_
  intro p e s m args below meth c X hnm
  have hI0 := hI
  obtain ⟨⟨hc3, hc4, hc6, hc9, hc12, hc14⟩, ⟨h30, h31, h32⟩, hr6, hr12, hr14⟩ := hI0
  refine z_lv (lv' := [(0, .ref (ad 0)), (1, .int g), (2, .int h)]) [0, 1, 2] rfl ?_
  refine z_aload_n X 0 dX3_stack_0 rfl rfl ?_
  refine z_get X (v := .int (nI (cn 12))) 0 12 wa_X3 rfl rfl (CF_at (k := 0) rfl rfl rfl rfl rfl) (by decide) q_97 rfl rfl dX3_stack_1 ?_
  refine z_iconst X (v := nI 4) dX3_stack_4 (by decide) ?_
  refine z_icmp_geN X (tgt := 32) (by omega) (by omega) dX3_stack_5 (by decide) (fun c5 => ?_) (fun c5 => ?_)
  · refine z_iconst X (v := -1) dX3_stack_32 (by decide) ?_
    refine z_iret X (Nat.le_of_ble_eq_true rfl) (Nat.le_of_ble_eq_true rfl) ?_ dX3_stack_33
    have h9 : ¬ okStackC cn g h := fun h9 => absurd h9.1 (by omega)
    rw [if_neg h9, if_neg h9]
    exact ⟨rfl, rfl, rfl⟩
  · refine z_iload_n X 1 dX3_stack_8 rfl rfl ?_
    refine z_i2l X dX3_stack_9 ?_
    refine z_lconst X (v := 0) dX3_stack_10 rfl ?_
    refine z_ldc2 X dX3_stack_11 q_215 ?_
    refine z_callS X (n := 3) (As := [.long g.toInt64, .long 0, .long 3]) (rest := []) (c_X3_isWithin l G cy B ad (CF cy ad cn u w x r) g.toInt64 0 3) q_142 q_143 q_24 q_144 (by decide +kernel) ⟨Nat.le_of_ble_eq_true rfl, Nat.le_of_ble_eq_true rfl⟩ rfl rfl (Nat.le_of_ble_eq_true rfl) dX3_stack_14 ⟨Nat.le_of_ble_eq_true rfl, Nat.le_of_ble_eq_true rfl⟩ (fun v ad' f' hp had => ?_)
    obtain ⟨rfl, rfl, rfl⟩ := hp
    refine z_st (st' := [.int (nI (if 0 ≤ g.toInt64 ∧ g.toInt64 ≤ 3 then 1 else 0))]) rfl ?_
    refine z_if_eqB X (tgt := 32) dX3_stack_17 (by decide) (fun c17 => ?_) (fun c17 => ?_)
    · refine z_iconst X (v := -1) dX3_stack_32 (by decide) ?_
      refine z_iret X (Nat.le_of_ble_eq_true rfl) (Nat.le_of_ble_eq_true rfl) ?_ dX3_stack_33
      have h9 : ¬ okStackC cn g h := fun h9 => c17 h9.2.1
      rw [if_neg h9, if_neg h9]
      exact ⟨rfl, rfl, rfl⟩
    · refine z_iload_n X 2 dX3_stack_20 rfl rfl ?_
      refine z_i2l X dX3_stack_21 ?_
      refine z_lconst X (v := 1) dX3_stack_22 rfl ?_
      refine z_ldc2 X dX3_stack_23 q_277 ?_
      refine z_callS X (n := 3) (As := [.long h.toInt64, .long 1, .long 6]) (rest := []) (c_X3_isWithin l G cy B ad (CF cy ad cn u w x r) h.toInt64 1 6) q_142 q_143 q_24 q_144 (by decide +kernel) ⟨Nat.le_of_ble_eq_true rfl, Nat.le_of_ble_eq_true rfl⟩ rfl rfl (Nat.le_of_ble_eq_true rfl) dX3_stack_26 ⟨Nat.le_of_ble_eq_true rfl, Nat.le_of_ble_eq_true rfl⟩ (fun v ad' f' hp had => ?_)
      obtain ⟨rfl, rfl, rfl⟩ := hp
      refine z_st (st' := [.int (nI (if 1 ≤ h.toInt64 ∧ h.toInt64 ≤ 6 then 1 else 0))]) rfl ?_
      refine z_if_neB X (tgt := 34) dX3_stack_29 (by decide) (fun c29 => ?_) (fun c29 => ?_)
      · refine z_aload_n X 0 dX3_stack_34 rfl rfl ?_
        refine z_get X (v := .ref (ad 12)) 0 11 wa_X3 rfl rfl (CF_at (k := 0) rfl rfl rfl rfl rfl) (by decide) q_96 rfl rfl dX3_stack_35 ?_
        refine z_aload_n X 0 dX3_stack_38 rfl rfl ?_
        refine z_get X (v := .int (nI (cn 12))) 0 12 wa_X3 rfl rfl (CF_at (k := 0) rfl rfl rfl rfl rfl) (by decide) q_97 rfl rfl dX3_stack_39 ?_
        refine z_new X (ci := 3) (fs := [.int 0, .int 0]) (cn 12 + 300) wa_X2 tyX2 tyX2_ok rfl (CF_nX2 (by omega) (by omega)) q_49 q_278 q_32 (by decide) (Nat.le_of_ble_eq_true rfl) (Nat.le_of_ble_eq_true rfl) dX3_stack_42 (fun a42 => ?_)
        generalize hA1 : zad ad (cn 12 + 300) a42 = ad1
        have A9 : a42 = ad1 (cn 12 + 300) := by rw [← hA1, zad_same]
        subst A9
        refine z_dup X dX3_stack_45 rfl ?_
        refine z_iload_n X 1 dX3_stack_46 rfl rfl ?_
        refine z_iload_n X 2 dX3_stack_47 rfl rfl ?_
        refine z_callI X (n := 2) (As := [.int g, .int h]) (rest := [.ref (ad1 (cn 12 + 300)), .int (nI (cn 12)), .ref (ad 12)]) (s_init l G cy B ad1 (zup (CF cy ad cn u w x r) (cn 12 + 300) (.inr (3, [.int 0, .int 0]))) (cn 12 + 300) zup_same g h) q_279 q_280 q_32 q_281 rfl (by decide +kernel) ⟨Nat.le_of_ble_eq_true rfl, Nat.le_of_ble_eq_true rfl⟩ rfl rfl (Nat.le_of_ble_eq_true rfl) dX3_stack_48 ⟨Nat.le_of_ble_eq_true rfl, Nat.le_of_ble_eq_true rfl⟩ (fun v ad' f' hp had => ?_)
        obtain ⟨rfl, rfl, rfl⟩ := hp
        refine z_st (st' := [.ref (ad1 (cn 12 + 300)), .int (nI (cn 12)), .ref (ad 12)]) rfl ?_
        have A0 : ∀ k, k ≠ cn 12 + 300 → 0 = 0 → ad1 k = ad k := fun k hk _ => by rw [← hA1]; exact zad_ne hk
        refine z_f (CF_newS (n := cn 12) (sF g h) (by omega) (by omega) A0 rfl) ?_
        generalize hcn1 : va_up cn 31 (cn 12 + 1) = cn1
        have B13 : cn1 3 = cn 3 := by rw [← hcn1]; rfl
        have B14 : cn1 4 = cn 4 := by rw [← hcn1]; rfl
        have B16 : cn1 6 = cn 6 := by rw [← hcn1]; rfl
        have B19 : cn1 9 = cn 9 := by rw [← hcn1]; rfl
        have B112 : cn1 12 = cn 12 := by rw [← hcn1]; rfl
        have B114 : cn1 14 = cn 14 := by rw [← hcn1]; rfl
        have B116 : cn1 16 = cn 16 := by rw [← hcn1]; rfl
        have B130 : cn1 30 = cn 30 := by rw [← hcn1]; rfl
        have B131 : cn1 31 = cn 12 + 1 := by rw [← hcn1]; rfl
        have B132 : cn1 32 = cn 32 := by rw [← hcn1]; rfl
        generalize hu1 : va_up u (cn 12 + 300) (sF g h) = u1
        refine z_aastN X (n := 4) (g := r 12) 12 6 (cn 12 + 300) (A0 12 (by omega) (by omega)) (CF_at (k := 12) rfl rfl rfl rfl rfl) rfl rfl (CF_at (k := cn 12 + 300) rfl rfl rfl rfl (cAt_s (i := cn 12) (by omega) (by omega))) rfl (by omega) (by decide) dX3_stack_51 ?_
        refine z_f (CFs_r (k := 12) (va_up (r 12) (cn 12) (some (ad1 (cn 12 + 300)))) rfl rfl rfl rfl) ?_
        refine z_aload_n X 0 dX3_stack_52 rfl rfl ?_
        refine z_dup X dX3_stack_53 rfl ?_
        refine z_get X (v := .int (nI (cn1 12))) 0 12 wa_X3 rfl (A0 0 (by omega) (by omega)) (CF_at (k := 0) rfl rfl rfl rfl rfl) (by decide) q_97 rfl rfl dX3_stack_54 ?_
        refine z_top (v' := .int (nI (cn 12))) (by rw [B112]) ?_
        refine z_iconst X (v := nI 1) dX3_stack_57 (by decide) ?_
        refine z_iaddN X dX3_stack_58 ?_
        refine z_put X (ty := .int) 0 12 wa_X3 tyX3 tyX3_ok nmX3 rfl (A0 0 (by omega) (by omega)) (CF_at (k := 0) rfl rfl rfl rfl rfl) (by decide) q_97 rfl rfl (by decide +kernel) rfl rfl (Nat.le_of_ble_eq_true rfl) dX3_stack_59 ?_
        refine z_f (CF_c (cn' := va_up cn1 12 ((cn 12) + 1)) 0 (Or.inl rfl) rfl rfl rfl rfl (fun _ => rfl) (fun h => absurd h (by decide))) ?_
        refine z_aload_n X 0 dX3_stack_62 rfl rfl ?_
        refine z_get X (v := .int (nI ((cn 12) + 1))) 0 12 wa_X3 rfl (A0 0 (by omega) (by omega)) (CF_at (k := 0) rfl rfl rfl rfl rfl) (by decide) q_97 rfl rfl dX3_stack_63 ?_
        refine z_iconst X (v := nI 1) dX3_stack_66 (by decide) ?_
        refine z_isubN X (by omega) dX3_stack_67 ?_
        refine z_iret X (Nat.le_of_ble_eq_true rfl) (Nat.le_of_ble_eq_true rfl) ?_ dX3_stack_68
        have h9 : okStackC cn g h := ⟨c5, c17, c29⟩
        rw [if_pos h9, if_pos h9]
        subst hu1 hcn1
        exact ⟨rfl, _, hA1, rfl⟩
      · refine z_iconst X (v := -1) dX3_stack_32 (by decide) ?_
        refine z_iret X (Nat.le_of_ble_eq_true rfl) (Nat.le_of_ble_eq_true rfl) ?_ dX3_stack_33
        have h9 : ¬ okStackC cn g h := fun h9 => c29 h9.2.2
        rw [if_neg h9, if_neg h9]
        exact ⟨rfl, rfl, rfl⟩
set_option maxHeartbeats 4000000 in
set_option maxRecDepth 100000 in
theorem p_lorry (l : Launch) (G : va_G) (cy : Nat → ClassId) (B : Nat) (ad : Nat → Nat) (cn : Nat → Nat) (u : Nat → Nat → Int32) (w : Nat → Nat → Int64) (x : Nat → Nat → UInt64) (r : Nat → Nat → Option Nat) (hI : CI ad cn r) (a b : Int64) : Ct l G cy B yX3_lorry cX3_lorry 5 (some .int) ({ frames := 2, cells := 1, slots := 5, locals := 36 } : Room) ad (CF cy ad cn u w x r) [.ref (ad 0), .long a, .long b] (fun v ad' f' => v = some (.int (if okLorryC cn a b then nI (cn 14) else -1)) ∧ (if okLorryC cn a b then ∃ a9, zad ad (cn 14 + 400) a9 = ad' ∧ CF cy ad' (va_up (va_up cn 32 (cn 14 + 1)) 14 (cn 14 + 1)) (va_up u (cn 14 + 400) (fun _ => 0)) (va_up w (cn 14 + 400) (lF a b)) x (va_up r 14 (va_up (r 14) (cn 14) (some (ad' (cn 14 + 400))))) = f' else ad = ad' ∧ CF cy ad cn u w x r = f')) := by
  refine ct_of (by decide +kernel) (Nat.le_of_ble_eq_true rfl) ?_
  intro p e s m args below meth c X hnm
  have hI0 := hI
  obtain ⟨⟨hc3, hc4, hc6, hc9, hc12, hc14⟩, ⟨h30, h31, h32⟩, hr6, hr12, hr14⟩ := hI0
  refine z_lv (lv' := [(0, .ref (ad 0)), (1, .long a), (3, .long b)]) [0, 1, 2] rfl ?_
  refine z_aload_n X 0 dX3_lorry_0 rfl rfl ?_
  refine z_get X (v := .int (nI (cn 14))) 0 14 wa_X3 rfl rfl (CF_at (k := 0) rfl rfl rfl rfl rfl) (by decide) q_99 rfl rfl dX3_lorry_1 ?_
  refine z_iconst X (v := nI 3) dX3_lorry_4 (by decide) ?_
  refine z_icmp_ltN X (tgt := 10) (by omega) (by omega) dX3_lorry_5 (by decide) (fun c5 => ?_) (fun c5 => ?_)
  · refine z_lload_n X 1 dX3_lorry_10 rfl rfl ?_
    refine z_lconst X (v := 0) dX3_lorry_11 rfl ?_
    refine z_ldc2 X dX3_lorry_12 q_330 ?_
    refine z_callS X (n := 3) (As := [.long a, .long 0, .long 100000000]) (rest := []) (c_X3_isWithin l G cy B ad (CF cy ad cn u w x r) a 0 100000000) q_142 q_143 q_24 q_144 (by decide +kernel) ⟨Nat.le_of_ble_eq_true rfl, Nat.le_of_ble_eq_true rfl⟩ rfl rfl (Nat.le_of_ble_eq_true rfl) dX3_lorry_15 ⟨Nat.le_of_ble_eq_true rfl, Nat.le_of_ble_eq_true rfl⟩ (fun v ad' f' hp had => ?_)
    obtain ⟨rfl, rfl, rfl⟩ := hp
    refine z_st (st' := [.int (nI (if 0 ≤ a ∧ a ≤ 100000000 then 1 else 0))]) rfl ?_
    refine z_if_eqB X (tgt := 32) dX3_lorry_18 (by decide) (fun c18 => ?_) (fun c18 => ?_)
    · refine z_iconst X (v := -1) dX3_lorry_32 (by decide) ?_
      refine z_iret X (Nat.le_of_ble_eq_true rfl) (Nat.le_of_ble_eq_true rfl) ?_ dX3_lorry_33
      have h9 : ¬ okLorryC cn a b := fun h9 => c18 h9.2.1
      rw [if_neg h9, if_neg h9]
      exact ⟨rfl, rfl, rfl⟩
    · refine z_lload_n X 2 dX3_lorry_21 rfl rfl ?_
      refine z_lconst X (v := 0) dX3_lorry_22 rfl ?_
      refine z_ldc2 X dX3_lorry_23 q_330 ?_
      refine z_callS X (n := 3) (As := [.long b, .long 0, .long 100000000]) (rest := []) (c_X3_isWithin l G cy B ad (CF cy ad cn u w x r) b 0 100000000) q_142 q_143 q_24 q_144 (by decide +kernel) ⟨Nat.le_of_ble_eq_true rfl, Nat.le_of_ble_eq_true rfl⟩ rfl rfl (Nat.le_of_ble_eq_true rfl) dX3_lorry_26 ⟨Nat.le_of_ble_eq_true rfl, Nat.le_of_ble_eq_true rfl⟩ (fun v ad' f' hp had => ?_)
      obtain ⟨rfl, rfl, rfl⟩ := hp
      refine z_st (st' := [.int (nI (if 0 ≤ b ∧ b ≤ 100000000 then 1 else 0))]) rfl ?_
      refine z_if_neB X (tgt := 34) dX3_lorry_29 (by decide) (fun c29 => ?_) (fun c29 => ?_)
      · refine z_aload_n X 0 dX3_lorry_34 rfl rfl ?_
        refine z_get X (v := .ref (ad 14)) 0 13 wa_X3 rfl rfl (CF_at (k := 0) rfl rfl rfl rfl rfl) (by decide) q_98 rfl rfl dX3_lorry_35 ?_
        refine z_aload_n X 0 dX3_lorry_38 rfl rfl ?_
        refine z_get X (v := .int (nI (cn 14))) 0 14 wa_X3 rfl rfl (CF_at (k := 0) rfl rfl rfl rfl rfl) (by decide) q_99 rfl rfl dX3_lorry_39 ?_
        refine z_new X (ci := 2) (fs := [.long 0, .long 0, .long 0, .long 0, .int 0]) (cn 14 + 400) wa_X1 tyX1 tyX1_ok rfl (CF_nX1 (by omega) (by omega)) q_50 q_331 q_33 (by decide) (Nat.le_of_ble_eq_true rfl) (Nat.le_of_ble_eq_true rfl) dX3_lorry_42 (fun a42 => ?_)
        generalize hA1 : zad ad (cn 14 + 400) a42 = ad1
        have A9 : a42 = ad1 (cn 14 + 400) := by rw [← hA1, zad_same]
        subst A9
        refine z_dup X dX3_lorry_45 rfl ?_
        refine z_lload_n X 1 dX3_lorry_46 rfl rfl ?_
        refine z_lload_n X 2 dX3_lorry_47 rfl rfl ?_
        refine z_callI X (n := 2) (As := [.long a, .long b]) (rest := [.ref (ad1 (cn 14 + 400)), .int (nI (cn 14)), .ref (ad 14)]) (y_init l G cy B ad1 (zup (CF cy ad cn u w x r) (cn 14 + 400) (.inr (2, [.long 0, .long 0, .long 0, .long 0, .int 0]))) (cn 14 + 400) zup_same a b) q_332 q_333 q_33 q_334 rfl (by decide +kernel) ⟨Nat.le_of_ble_eq_true rfl, Nat.le_of_ble_eq_true rfl⟩ rfl rfl (Nat.le_of_ble_eq_true rfl) dX3_lorry_48 ⟨Nat.le_of_ble_eq_true rfl, Nat.le_of_ble_eq_true rfl⟩ (fun v ad' f' hp had => ?_)
        obtain ⟨rfl, rfl, rfl⟩ := hp
        refine z_st (st' := [.ref (ad1 (cn 14 + 400)), .int (nI (cn 14)), .ref (ad 14)]) rfl ?_
        have A0 : ∀ k, k ≠ cn 14 + 400 → 0 = 0 → ad1 k = ad k := fun k hk _ => by rw [← hA1]; exact zad_ne hk
        refine z_f (CF_newL (n := cn 14) (fun _ => 0) (lF a b) (by omega) (by omega) A0 rfl) ?_
        generalize hcn1 : va_up cn 32 (cn 14 + 1) = cn1
        have B13 : cn1 3 = cn 3 := by rw [← hcn1]; rfl
        have B14 : cn1 4 = cn 4 := by rw [← hcn1]; rfl
        have B16 : cn1 6 = cn 6 := by rw [← hcn1]; rfl
        have B19 : cn1 9 = cn 9 := by rw [← hcn1]; rfl
        have B112 : cn1 12 = cn 12 := by rw [← hcn1]; rfl
        have B114 : cn1 14 = cn 14 := by rw [← hcn1]; rfl
        have B116 : cn1 16 = cn 16 := by rw [← hcn1]; rfl
        have B130 : cn1 30 = cn 30 := by rw [← hcn1]; rfl
        have B131 : cn1 31 = cn 31 := by rw [← hcn1]; rfl
        have B132 : cn1 32 = cn 14 + 1 := by rw [← hcn1]; rfl
        generalize hu1 : va_up u (cn 14 + 400) (fun _ => 0) = u1
        generalize hw1 : va_up w (cn 14 + 400) (lF a b) = w1
        refine z_aastN X (n := 3) (g := r 14) 14 5 (cn 14 + 400) (A0 14 (by omega) (by omega)) (CF_at (k := 14) rfl rfl rfl rfl rfl) rfl rfl (CF_at (k := cn 14 + 400) rfl rfl rfl rfl (cAt_l (i := cn 14) (by omega) (by omega))) rfl (by omega) (by decide) dX3_lorry_51 ?_
        refine z_f (CFs_r (k := 14) (va_up (r 14) (cn 14) (some (ad1 (cn 14 + 400)))) rfl rfl rfl rfl) ?_
        refine z_aload_n X 0 dX3_lorry_52 rfl rfl ?_
        refine z_dup X dX3_lorry_53 rfl ?_
        refine z_get X (v := .int (nI (cn1 14))) 0 14 wa_X3 rfl (A0 0 (by omega) (by omega)) (CF_at (k := 0) rfl rfl rfl rfl rfl) (by decide) q_99 rfl rfl dX3_lorry_54 ?_
        refine z_top (v' := .int (nI (cn 14))) (by rw [B114]) ?_
        refine z_iconst X (v := nI 1) dX3_lorry_57 (by decide) ?_
        refine z_iaddN X dX3_lorry_58 ?_
        refine z_put X (ty := .int) 0 14 wa_X3 tyX3 tyX3_ok nmX3 rfl (A0 0 (by omega) (by omega)) (CF_at (k := 0) rfl rfl rfl rfl rfl) (by decide) q_99 rfl rfl (by decide +kernel) rfl rfl (Nat.le_of_ble_eq_true rfl) dX3_lorry_59 ?_
        refine z_f (CF_c (cn' := va_up cn1 14 ((cn 14) + 1)) 0 (Or.inl rfl) rfl rfl rfl rfl (fun _ => rfl) (fun h => absurd h (by decide))) ?_
        refine z_aload_n X 0 dX3_lorry_62 rfl rfl ?_
        refine z_get X (v := .int (nI ((cn 14) + 1))) 0 14 wa_X3 rfl (A0 0 (by omega) (by omega)) (CF_at (k := 0) rfl rfl rfl rfl rfl) (by decide) q_99 rfl rfl dX3_lorry_63 ?_
        refine z_iconst X (v := nI 1) dX3_lorry_66 (by decide) ?_
        refine z_isubN X (by omega) dX3_lorry_67 ?_
        refine z_iret X (Nat.le_of_ble_eq_true rfl) (Nat.le_of_ble_eq_true rfl) ?_ dX3_lorry_68
        have h9 : okLorryC cn a b := ⟨c5, c18, c29⟩
        rw [if_pos h9, if_pos h9]
        subst hw1 hu1 hcn1
        exact ⟨rfl, _, hA1, rfl⟩
      · refine z_iconst X (v := -1) dX3_lorry_32 (by decide) ?_
        refine z_iret X (Nat.le_of_ble_eq_true rfl) (Nat.le_of_ble_eq_true rfl) ?_ dX3_lorry_33
        have h9 : ¬ okLorryC cn a b := fun h9 => c29 h9.2.2
        rw [if_neg h9, if_neg h9]
        exact ⟨rfl, rfl, rfl⟩
  · refine z_iconst X (v := -1) dX3_lorry_8 (by decide) ?_
    refine z_iret X (Nat.le_of_ble_eq_true rfl) (Nat.le_of_ble_eq_true rfl) ?_ dX3_lorry_9
    have h9 : ¬ okLorryC cn a b := fun h9 => absurd h9.1 (by omega)
    rw [if_neg h9, if_neg h9]
    exact ⟨rfl, rfl, rfl⟩
set_option maxHeartbeats 4000000 in
set_option maxRecDepth 100000 in
theorem p_bale (l : Launch) (G : va_G) (cy : Nat → ClassId) (B : Nat) (ad : Nat → Nat) (cn : Nat → Nat) (u : Nat → Nat → Int32) (w : Nat → Nat → Int64) (x : Nat → Nat → UInt64) (r : Nat → Nat → Option Nat) (hI : CI ad cn r) (sc : Int64) (hok : ∀ f, f < cn 3 → okKind (u 2 f)) : Ct l G cy B yX3_bale cX3_bale 6 (some .int) ({ frames := 2, cells := 2, slots := 13, locals := 43 } : Room) ad (CF cy ad cn u w x r) [.ref (ad 0), .long sc] (fun v ad' f' => v = some (.int (if okBaleC cn w sc then nI (cn 6) else -1)) ∧ (if okBaleC cn w sc then ∃ a9 b9, zad (zad ad (cn 6 + 100) a9) (cn 6 + 200) b9 = ad' ∧ CF cy ad' (va_up (va_up (nwC cn) 4 (cn 4 + scanF (fun f => decide (¬ w 1 (cn 4 + f) ≤ sc)) (cn 3 - cn 4) 0)) 6 (cn 6 + 1)) (nwU u (cn 6 + 100)) (va_up w (cn 6 + 200) (gAcc (u 2) (w 3) (cn 4) (scanF (fun f => decide (¬ w 1 (cn 4 + f) ≤ sc)) (cn 3 - cn 4) 0))) (nwX x (cn 6 + 100)) (va_up (nwR r (cn 6 + 100)) 6 (va_up (nwR r (cn 6 + 100) 6) (cn 6) (some (ad' (cn 6 + 100))))) = f' else ad = ad' ∧ CF cy ad cn u w x r = f')) := by
  refine ct_of (by decide +kernel) (Nat.le_of_ble_eq_true rfl) ?_
  intro p e s m args below meth c X hnm
  have hI0 := hI
  obtain ⟨⟨hc3, hc4, hc6, hc9, hc12, hc14⟩, ⟨h30, h31, h32⟩, hr6, hr12, hr14⟩ := hI0
  refine z_lv (lv' := [(0, .ref (ad 0)), (1, .long sc)]) [0, 1] rfl ?_
  refine z_aload_n X 0 dX3_bale_0 rfl rfl ?_
  refine z_get X (v := .int (nI (cn 4))) 0 4 wa_X3 rfl rfl (CF_at (k := 0) rfl rfl rfl rfl rfl) (by decide) q_89 rfl rfl dX3_bale_1 ?_
  refine z_istore_n X (lv' := [(3, .int (nI (cn 4))), (0, .ref (ad 0)), (1, .long sc)]) dX3_bale_4 rfl (by decide) rfl ?_
  refine z_lv (lv' := [(0, .ref (ad 0)), (1, .long sc), (3, .int (nI (cn 4)))]) [1, 2, 0] rfl ?_
  have lp5 : ∀ (fu5 : Nat) (i : Nat), (cn 4 + i ≤ cn 3) → (scanF (fun f => decide (¬ w 1 (cn 4 + f) ≤ sc)) (cn 3 - cn 4 - i) i = scanF (fun f => decide (¬ w 1 (cn 4 + f) ≤ sc)) (cn 3 - cn 4) 0) → cn 3 + 1 ≤ i + fu5 → Z G B 6 ad (CF cy ad cn u w x r) p l e ({ frames := 2, cells := 2, slots := 13, locals := 43 } : Room) s m args below meth c (zEnd G B ad (CF cy ad cn u w x r) below args s ({ frames := 2, cells := 2, slots := 13, locals := 43 } : Room) (fun v ad' f' => v = some (.int (if okBaleC cn w sc then nI (cn 6) else -1)) ∧ (if okBaleC cn w sc then ∃ a9 b9, zad (zad ad (cn 6 + 100) a9) (cn 6 + 200) b9 = ad' ∧ CF cy ad' (va_up (va_up (nwC cn) 4 (cn 4 + scanF (fun f => decide (¬ w 1 (cn 4 + f) ≤ sc)) (cn 3 - cn 4) 0)) 6 (cn 6 + 1)) (nwU u (cn 6 + 100)) (va_up w (cn 6 + 200) (gAcc (u 2) (w 3) (cn 4) (scanF (fun f => decide (¬ w 1 (cn 4 + f) ≤ sc)) (cn 3 - cn 4) 0))) (nwX x (cn 6 + 100)) (va_up (nwR r (cn 6 + 100)) 6 (va_up (nwR r (cn 6 + 100) 6) (cn 6) (some (ad' (cn 6 + 100))))) = f' else ad = ad' ∧ CF cy ad cn u w x r = f'))) ad (CF cy ad cn u w x r) 0 0 5 [(0, .ref (ad 0)), (1, .long sc), (3, .int (nI (cn 4 + i)))] [] := by
    intro fu5
    induction fu5 with
    | zero => intro i hi hs hm5; exact absurd hm5 (by omega)
    | succ fu5 ih5 =>
      intro i hi hs hm5
      refine z_iload_n X 2 dX3_bale_5 rfl rfl ?_
      refine z_aload_n X 0 dX3_bale_6 rfl rfl ?_
      refine z_get X (v := .int (nI (cn 3))) 0 3 wa_X3 rfl rfl (CF_at (k := 0) rfl rfl rfl rfl rfl) (by decide) q_88 rfl rfl dX3_bale_7 ?_
      refine z_icmp_geN X (tgt := 30) (by omega) (by omega) dX3_bale_10 (by decide) (fun c10 => ?_) (fun c10 => ?_)
      · refine z_aload_n X 0 dX3_bale_30 rfl rfl ?_
        refine z_get X (v := .int (nI (cn 6))) 0 6 wa_X3 rfl rfl (CF_at (k := 0) rfl rfl rfl rfl rfl) (by decide) q_91 rfl rfl dX3_bale_31 ?_
        refine z_bipush X (v := nI 12) dX3_bale_34 (by decide) ?_
        refine z_icmp_geN X (tgt := 47) (by omega) (by omega) dX3_bale_36 (by decide) (fun c36 => ?_) (fun c36 => ?_)
        · refine z_iconst X (v := -1) dX3_bale_47 (by decide) ?_
          refine z_iret X (Nat.le_of_ble_eq_true rfl) (Nat.le_of_ble_eq_true rfl) ?_ dX3_bale_48
          have e9 : scanF (fun f => decide (¬ w 1 (cn 4 + f) ≤ sc)) (cn 3 - cn 4) 0 = i := by rw [← hs]; rw [show cn 3 - cn 4 - i = 0 by omega]; rfl
          have h9 : ¬ okBaleC cn w sc := fun h9 => absurd h9.1 (by omega)
          rw [if_neg h9, if_neg h9]
          exact ⟨rfl, rfl, rfl⟩
        · refine z_iload_n X 2 dX3_bale_39 rfl rfl ?_
          refine z_aload_n X 0 dX3_bale_40 rfl rfl ?_
          refine z_get X (v := .int (nI (cn 4))) 0 4 wa_X3 rfl rfl (CF_at (k := 0) rfl rfl rfl rfl rfl) (by decide) q_89 rfl rfl dX3_bale_41 ?_
          refine z_icmp_neN X (tgt := 49) (by omega) (by omega) dX3_bale_44 (by decide) (fun c44 => ?_) (fun c44 => ?_)
          · have e7 : scanF (fun f => decide (¬ w 1 (cn 4 + f) ≤ sc)) (cn 3 - cn 4) 0 = i := by rw [← hs]; rw [show cn 3 - cn 4 - i = 0 by omega]; rfl
            refine z_new X (ci := 1) (fs := [.null, .double 0, .int 0, .int 0, .int 0, .int 0, .int 0, .null, .null]) (cn 6 + 100) wa_X0 tyX0 tyX0_ok rfl (CF_nX0 (by omega) (by omega)) q_48 q_150 q_30 (by decide) (Nat.le_of_ble_eq_true rfl) (Nat.le_of_ble_eq_true rfl) dX3_bale_49 (fun a49 => ?_)
            generalize hA1 : zad ad (cn 6 + 100) a49 = ad1
            have A9 : a49 = ad1 (cn 6 + 100) := by rw [← hA1, zad_same]
            subst A9
            refine z_dup X dX3_bale_52 rfl ?_
            refine z_callI X (n := 0) (As := []) (rest := [.ref (ad1 (cn 6 + 100))]) (b_init l G cy B ad1 (zup (CF cy ad cn u w x r) (cn 6 + 100) (.inr (1, [.null, .double 0, .int 0, .int 0, .int 0, .int 0, .int 0, .null, .null]))) (cn 6 + 100) (cn 6 + 200) (by omega) zup_same ((zup_ne (by omega)).trans (CF_nG (by omega) (by omega)))) q_151 q_152 q_30 q_153 rfl (by decide +kernel) ⟨Nat.le_of_ble_eq_true rfl, Nat.le_of_ble_eq_true rfl⟩ rfl rfl (Nat.le_of_ble_eq_true rfl) dX3_bale_53 ⟨Nat.le_of_ble_eq_true rfl, Nat.le_of_ble_eq_true rfl⟩ (fun v ad' f' hp had => ?_)
            obtain ⟨rfl, a9, rfl, rfl⟩ := hp
            generalize hA2 : zad ad1 (cn 6 + 200) a9 = ad2
            have A8 : a9 = ad2 (cn 6 + 200) := by rw [← hA2, zad_same]
            subst A8
            have A0 : ∀ k, k ≠ cn 6 + 100 → k ≠ cn 6 + 200 → ad2 k = ad k := fun k h1 h2 => by rw [← hA2, zad_ne h2, ← hA1, zad_ne h1]
            have A1 : ad2 (cn 6 + 100) = ad1 (cn 6 + 100) := by rw [← hA2]; exact zad_ne (by omega)
            refine z_st (st' := [.ref (ad1 (cn 6 + 100))]) rfl ?_
            refine z_f (CF_newB (n := cn 6) nU (fun _ => 0) nX nR (by omega) (by omega) A0 rfl rfl) ?_
            generalize hcn1 : va_up cn 30 (cn 6 + 1) = cn1
            have B13 : cn1 3 = cn 3 := by rw [← hcn1]; rfl
            have B14 : cn1 4 = cn 4 := by rw [← hcn1]; rfl
            have B16 : cn1 6 = cn 6 := by rw [← hcn1]; rfl
            have B19 : cn1 9 = cn 9 := by rw [← hcn1]; rfl
            have B112 : cn1 12 = cn 12 := by rw [← hcn1]; rfl
            have B114 : cn1 14 = cn 14 := by rw [← hcn1]; rfl
            have B116 : cn1 16 = cn 16 := by rw [← hcn1]; rfl
            have B130 : cn1 30 = cn 6 + 1 := by rw [← hcn1]; rfl
            have B131 : cn1 31 = cn 31 := by rw [← hcn1]; rfl
            have B132 : cn1 32 = cn 32 := by rw [← hcn1]; rfl
            generalize hu1 : va_up u (cn 6 + 100) nU = u1
            generalize hx1 : va_up x (cn 6 + 100) nX = x1
            generalize hr1 : va_up r (cn 6 + 100) nR = r1
            have U2 : u1 2 = u 2 := by rw [← hu1]; exact va_ne (by omega)
            refine z_astore X (lv' := [(4, .ref (ad1 (cn 6 + 100))), (0, .ref (ad 0)), (1, .long sc), (3, .int (nI (cn 4 + i)))]) dX3_bale_56 (by decide) rfl ?_
            refine z_lv (lv' := [(4, .ref (ad2 (cn 6 + 100))), (0, .ref (ad2 0)), (1, .long sc), (3, .int (nI (cn 4 + i)))]) [0, 1, 2, 3] (by rw [A1, A0 0 (by omega) (by omega)]; rfl) ?_
            refine z_aload_n X 1 dX3_bale_58 rfl rfl ?_
            refine z_get X (v := .int (nI (cn1 4))) 0 4 wa_X3 rfl rfl (CF_at (k := 0) rfl (va_ne (by omega)) rfl rfl rfl) (by decide) q_89 rfl rfl dX3_bale_59 ?_
            refine z_top (v' := .int (nI (cn 4))) (by rw [B14]) ?_
            refine z_istore X (lv' := [(5, .int (nI (cn 4))), (4, .ref (ad2 (cn 6 + 100))), (0, .ref (ad2 0)), (1, .long sc), (3, .int (nI (cn 4 + i)))]) dX3_bale_62 (by decide) rfl ?_
            refine z_lv (lv' := [(0, .ref (ad2 0)), (3, .int (nI (cn 4 + i))), (4, .ref (ad2 (cn 6 + 100))), (5, .int (nI (cn 4)))]) [2, 4, 1, 0] rfl ?_
            have lp64 : ∀ (fu64 : Nat) (n : Nat), (n ≤ i) → i + 1 ≤ n + fu64 → Z G B 6 ad (CF cy ad cn u w x r) p l e ({ frames := 2, cells := 2, slots := 13, locals := 43 } : Room) s m args below meth c (zEnd G B ad (CF cy ad cn u w x r) below args s ({ frames := 2, cells := 2, slots := 13, locals := 43 } : Room) (fun v ad' f' => v = some (.int (if okBaleC cn w sc then nI (cn 6) else -1)) ∧ (if okBaleC cn w sc then ∃ a9 b9, zad (zad ad (cn 6 + 100) a9) (cn 6 + 200) b9 = ad' ∧ CF cy ad' (va_up (va_up (nwC cn) 4 (cn 4 + scanF (fun f => decide (¬ w 1 (cn 4 + f) ≤ sc)) (cn 3 - cn 4) 0)) 6 (cn 6 + 1)) (nwU u (cn 6 + 100)) (va_up w (cn 6 + 200) (gAcc (u 2) (w 3) (cn 4) (scanF (fun f => decide (¬ w 1 (cn 4 + f) ≤ sc)) (cn 3 - cn 4) 0))) (nwX x (cn 6 + 100)) (va_up (nwR r (cn 6 + 100)) 6 (va_up (nwR r (cn 6 + 100) 6) (cn 6) (some (ad' (cn 6 + 100))))) = f' else ad = ad' ∧ CF cy ad cn u w x r = f'))) ad2 (CF cy ad2 cn1 u1 (va_up w (cn 6 + 200) (gAcc (u 2) (w 3) (cn 4) n)) x1 r1) 2 13 64 [(0, .ref (ad2 0)), (3, .int (nI (cn 4 + i))), (4, .ref (ad2 (cn 6 + 100))), (5, .int (nI (cn 4 + n)))] [] := by
              intro fu64
              induction fu64 with
              | zero => intro n hn hm64; exact absurd hm64 (by omega)
              | succ fu64 ih64 =>
                intro n hn hm64
                refine z_iload X 3 dX3_bale_64 rfl ?_
                refine z_iload_n X 1 dX3_bale_66 rfl rfl ?_
                refine z_icmp_geN X (tgt := 95) (by omega) (by omega) dX3_bale_67 (by decide) (fun c67 => ?_) (fun c67 => ?_)
                · have e8 : i = n := by omega
                  subst e8
                  refine z_aload_n X 0 dX3_bale_95 rfl rfl ?_
                  refine z_iload_n X 1 dX3_bale_96 rfl rfl ?_
                  refine z_put X (ty := .int) 0 4 wa_X3 tyX3 tyX3_ok nmX3 rfl rfl (CF_at (k := 0) rfl (va_ne (by omega)) rfl rfl rfl) (by decide) q_89 rfl rfl (by decide +kernel) rfl rfl (Nat.le_of_ble_eq_true rfl) dX3_bale_97 ?_
                  refine z_f (CF_c (cn' := va_up cn1 4 (cn 4 + i)) 0 (Or.inl rfl) rfl rfl rfl rfl (fun _ => rfl) (fun h => absurd h (by decide))) ?_
                  refine z_aload_n X 0 dX3_bale_100 rfl rfl ?_
                  refine z_aload X 2 dX3_bale_101 rfl ?_
                  refine z_callV X (n := 1) (As := [.ref (ad2 (cn 6 + 100))]) (rest := []) 0 rfl (CF_at (k := 0) rfl (va_ne (by omega)) rfl rfl rfl) rfl (p_keepBale l G cy B ad2 (va_up cn1 4 (cn 4 + i)) u1 (va_up w (cn 6 + 200) (gAcc (u 2) (w 3) (cn 4) i)) x1 r1 (cn 6) (show cn1 6 = cn 6 from B16) (by omega) (show cn1 30 = cn 6 + 1 from B130)) q_187 q_188 q_1 q_24 q_189 (by decide +kernel) ⟨Nat.le_of_ble_eq_true rfl, Nat.le_of_ble_eq_true rfl⟩ rfl rfl (Nat.le_of_ble_eq_true rfl) dX3_bale_103 ⟨Nat.le_of_ble_eq_true rfl, Nat.le_of_ble_eq_true rfl⟩ (fun v ad' f' hp had => ?_)
                  obtain ⟨rfl, rfl, rfl⟩ := hp
                  refine z_st (st' := [.int (nI (cn 6))]) rfl ?_
                  refine z_iret X (Nat.le_of_ble_eq_true rfl) (Nat.le_of_ble_eq_true rfl) ?_ dX3_bale_106
                  have e9 : scanF (fun f => decide (¬ w 1 (cn 4 + f) ≤ sc)) (cn 3 - cn 4) 0 = i := e7
                  have h9 : okBaleC cn w sc := ⟨by omega, by rw [e9]; omega⟩
                  rw [if_pos h9, if_pos h9, e9]
                  subst hr1 hx1 hu1 hcn1
                  exact ⟨rfl, _, _, by rw [hA1]; exact hA2, rfl⟩
                · refine z_aload X 2 dX3_bale_70 rfl ?_
                  refine z_aload_n X 0 dX3_bale_72 rfl rfl ?_
                  refine z_get X (v := .ref (ad2 2)) 0 1 wa_X3 rfl rfl (CF_at (k := 0) rfl (va_ne (by omega)) rfl rfl rfl) (by decide) q_86 rfl rfl dX3_bale_73 ?_
                  refine z_iload X 3 dX3_bale_76 rfl ?_
                  refine z_ialdN X (n := 200) (g := u1 2) 2 rfl (CF_at (k := 2) rfl (va_ne (by omega)) rfl rfl rfl) (by omega) (by decide) dX3_bale_78 ?_
                  refine z_top (v' := .int (u 2 (cn 4 + n))) (by rw [U2]) ?_
                  refine z_aload_n X 0 dX3_bale_79 rfl rfl ?_
                  refine z_get X (v := .ref (ad2 3)) 0 2 wa_X3 rfl rfl (CF_at (k := 0) rfl (va_ne (by omega)) rfl rfl rfl) (by decide) q_87 rfl rfl dX3_bale_80 ?_
                  refine z_iload X 3 dX3_bale_83 rfl ?_
                  refine z_laldN X (n := 200) (g := w 3) 3 rfl (CF_at (k := 3) rfl (va_ne (by omega)) rfl rfl rfl) (by omega) (by decide) dX3_bale_85 ?_
                  refine z_callV X (n := 2) (As := [.int (u 2 (cn 4 + n)), .long ((w 3) (cn 4 + n))]) (rest := []) (cn 6 + 100) rfl (CF_at (k := cn 6 + 100) rfl (va_ne (by omega)) rfl rfl (cAt_b (i := cn 6) (by omega) (by omega))) rfl (b_addGrams l G cy B ad2 (CF cy ad2 cn1 u1 (va_up w (cn 6 + 200) (gAcc (u 2) (w 3) (cn 4) n)) x1 r1) (cn 6 + 100) (cn 6 + 200) ((x1 (cn 6 + 100)) 1) ((u1 (cn 6 + 100)) 2) ((u1 (cn 6 + 100)) 3) ((u1 (cn 6 + 100)) 4) ((u1 (cn 6 + 100)) 5) ((u1 (cn 6 + 100)) 6) ((r1 (cn 6 + 100)) 7) ((r1 (cn 6 + 100)) 8) (gAcc (u 2) (w 3) (cn 4) n) (CF_at (k := cn 6 + 100) rfl (va_ne (by omega)) rfl rfl (cAt_b (i := cn 6) (by omega) (by omega))) (CF_at (k := cn 6 + 200) rfl va_same rfl rfl (cAt_g (i := cn 6) (by omega) (by omega))) (u 2 (cn 4 + n)) (w 3 (cn 4 + n)) (hok _ (by omega))) q_183 q_184 q_185 q_30 q_186 (by decide +kernel) ⟨Nat.le_of_ble_eq_true rfl, Nat.le_of_ble_eq_true rfl⟩ rfl rfl (Nat.le_of_ble_eq_true rfl) dX3_bale_86 ⟨Nat.le_of_ble_eq_true rfl, Nat.le_of_ble_eq_true rfl⟩ (fun v ad' f' hp had => ?_)
                  obtain ⟨rfl, rfl, rfl⟩ := hp
                  refine z_st (st' := []) rfl ?_
                  refine z_f (CFs_w (k := cn 6 + 200) (gAcc (u 2) (w 3) (cn 4) (n + 1)) rfl rfl rfl (cAt_g (i := cn 6) (by omega) (by omega))) ?_
                  refine z_f (congrArg (fun z => CF cy ad2 cn1 u1 z x1 r1) (show va_up (va_up w (cn 6 + 200) (gAcc (u 2) (w 3) (cn 4) n)) (cn 6 + 200) (gAcc (u 2) (w 3) (cn 4) (n + 1)) = va_up w (cn 6 + 200) (gAcc (u 2) (w 3) (cn 4) (n + 1)) from up_up)) ?_
                  refine z_iincN X 3 (k := 1) (lv' := [(5, .int (nI (cn 4 + n + 1))), (0, .ref (ad2 0)), (3, .int (nI (cn 4 + i))), (4, .ref (ad2 (cn 6 + 100)))]) dX3_bale_89 rfl (by decide) (by decide) rfl ?_
                  refine z_goto X (tgt := 64) dX3_bale_92 (by decide) ?_
                  refine z_lv (lv' := [(0, .ref (ad2 0)), (3, .int (nI (cn 4 + i))), (4, .ref (ad2 (cn 6 + 100))), (5, .int (nI (cn 4 + n + 1)))]) [1, 2, 3, 0] rfl ?_
                  exact ih64 (n + 1) (by omega) (by omega)
            refine z_f (show CF cy ad2 cn1 u1 (va_up w (cn 6 + 200) (fun _ => 0)) x1 r1 = CF cy ad2 cn1 u1 (va_up w (cn 6 + 200) (gAcc (u 2) (w 3) (cn 4) 0)) x1 r1 from rfl) ?_
            exact lp64 (i + 1) 0 (by omega) (by omega)
          · refine z_iconst X (v := -1) dX3_bale_47 (by decide) ?_
            refine z_iret X (Nat.le_of_ble_eq_true rfl) (Nat.le_of_ble_eq_true rfl) ?_ dX3_bale_48
            have e9 : scanF (fun f => decide (¬ w 1 (cn 4 + f) ≤ sc)) (cn 3 - cn 4) 0 = i := by rw [← hs]; rw [show cn 3 - cn 4 - i = 0 by omega]; rfl
            have h9 : ¬ okBaleC cn w sc := fun h9 => h9.2 (by rw [e9]; omega)
            rw [if_neg h9, if_neg h9]
            exact ⟨rfl, rfl, rfl⟩
      · refine z_aload_n X 0 dX3_bale_13 rfl rfl ?_
        refine z_get X (v := .ref (ad 1)) 0 0 wa_X3 rfl rfl (CF_at (k := 0) rfl rfl rfl rfl rfl) (by decide) q_85 rfl rfl dX3_bale_14 ?_
        refine z_iload_n X 2 dX3_bale_17 rfl rfl ?_
        refine z_laldN X (n := 200) (g := w 1) 1 rfl (CF_at (k := 1) rfl rfl rfl rfl rfl) (by omega) (by decide) dX3_bale_18 ?_
        refine z_lload_n X 1 dX3_bale_19 rfl rfl ?_
        refine z_lcmp_gt X (tgt := 30) dX3_bale_20 dX3_bale_21 (by decide) (fun c20 => ?_) (fun c20 => ?_)
        · refine z_aload_n X 0 dX3_bale_30 rfl rfl ?_
          refine z_get X (v := .int (nI (cn 6))) 0 6 wa_X3 rfl rfl (CF_at (k := 0) rfl rfl rfl rfl rfl) (by decide) q_91 rfl rfl dX3_bale_31 ?_
          refine z_bipush X (v := nI 12) dX3_bale_34 (by decide) ?_
          refine z_icmp_geN X (tgt := 47) (by omega) (by omega) dX3_bale_36 (by decide) (fun c36 => ?_) (fun c36 => ?_)
          · refine z_iconst X (v := -1) dX3_bale_47 (by decide) ?_
            refine z_iret X (Nat.le_of_ble_eq_true rfl) (Nat.le_of_ble_eq_true rfl) ?_ dX3_bale_48
            have e9 : scanF (fun f => decide (¬ w 1 (cn 4 + f) ≤ sc)) (cn 3 - cn 4) 0 = i := by rw [← hs]; exact scanF_y (by omega) (decide_eq_true (Int64.not_le.mpr c20))
            have h9 : ¬ okBaleC cn w sc := fun h9 => absurd h9.1 (by omega)
            rw [if_neg h9, if_neg h9]
            exact ⟨rfl, rfl, rfl⟩
          · refine z_iload_n X 2 dX3_bale_39 rfl rfl ?_
            refine z_aload_n X 0 dX3_bale_40 rfl rfl ?_
            refine z_get X (v := .int (nI (cn 4))) 0 4 wa_X3 rfl rfl (CF_at (k := 0) rfl rfl rfl rfl rfl) (by decide) q_89 rfl rfl dX3_bale_41 ?_
            refine z_icmp_neN X (tgt := 49) (by omega) (by omega) dX3_bale_44 (by decide) (fun c44 => ?_) (fun c44 => ?_)
            · have e7 : scanF (fun f => decide (¬ w 1 (cn 4 + f) ≤ sc)) (cn 3 - cn 4) 0 = i := by rw [← hs]; exact scanF_y (by omega) (decide_eq_true (Int64.not_le.mpr c20))
              refine z_new X (ci := 1) (fs := [.null, .double 0, .int 0, .int 0, .int 0, .int 0, .int 0, .null, .null]) (cn 6 + 100) wa_X0 tyX0 tyX0_ok rfl (CF_nX0 (by omega) (by omega)) q_48 q_150 q_30 (by decide) (Nat.le_of_ble_eq_true rfl) (Nat.le_of_ble_eq_true rfl) dX3_bale_49 (fun a49 => ?_)
              generalize hA1 : zad ad (cn 6 + 100) a49 = ad1
              have A9 : a49 = ad1 (cn 6 + 100) := by rw [← hA1, zad_same]
              subst A9
              refine z_dup X dX3_bale_52 rfl ?_
              refine z_callI X (n := 0) (As := []) (rest := [.ref (ad1 (cn 6 + 100))]) (b_init l G cy B ad1 (zup (CF cy ad cn u w x r) (cn 6 + 100) (.inr (1, [.null, .double 0, .int 0, .int 0, .int 0, .int 0, .int 0, .null, .null]))) (cn 6 + 100) (cn 6 + 200) (by omega) zup_same ((zup_ne (by omega)).trans (CF_nG (by omega) (by omega)))) q_151 q_152 q_30 q_153 rfl (by decide +kernel) ⟨Nat.le_of_ble_eq_true rfl, Nat.le_of_ble_eq_true rfl⟩ rfl rfl (Nat.le_of_ble_eq_true rfl) dX3_bale_53 ⟨Nat.le_of_ble_eq_true rfl, Nat.le_of_ble_eq_true rfl⟩ (fun v ad' f' hp had => ?_)
              obtain ⟨rfl, a9, rfl, rfl⟩ := hp
              generalize hA2 : zad ad1 (cn 6 + 200) a9 = ad2
              have A8 : a9 = ad2 (cn 6 + 200) := by rw [← hA2, zad_same]
              subst A8
              have A0 : ∀ k, k ≠ cn 6 + 100 → k ≠ cn 6 + 200 → ad2 k = ad k := fun k h1 h2 => by rw [← hA2, zad_ne h2, ← hA1, zad_ne h1]
              have A1 : ad2 (cn 6 + 100) = ad1 (cn 6 + 100) := by rw [← hA2]; exact zad_ne (by omega)
              refine z_st (st' := [.ref (ad1 (cn 6 + 100))]) rfl ?_
              refine z_f (CF_newB (n := cn 6) nU (fun _ => 0) nX nR (by omega) (by omega) A0 rfl rfl) ?_
              generalize hcn1 : va_up cn 30 (cn 6 + 1) = cn1
              have B13 : cn1 3 = cn 3 := by rw [← hcn1]; rfl
              have B14 : cn1 4 = cn 4 := by rw [← hcn1]; rfl
              have B16 : cn1 6 = cn 6 := by rw [← hcn1]; rfl
              have B19 : cn1 9 = cn 9 := by rw [← hcn1]; rfl
              have B112 : cn1 12 = cn 12 := by rw [← hcn1]; rfl
              have B114 : cn1 14 = cn 14 := by rw [← hcn1]; rfl
              have B116 : cn1 16 = cn 16 := by rw [← hcn1]; rfl
              have B130 : cn1 30 = cn 6 + 1 := by rw [← hcn1]; rfl
              have B131 : cn1 31 = cn 31 := by rw [← hcn1]; rfl
              have B132 : cn1 32 = cn 32 := by rw [← hcn1]; rfl
              generalize hu1 : va_up u (cn 6 + 100) nU = u1
              generalize hx1 : va_up x (cn 6 + 100) nX = x1
              generalize hr1 : va_up r (cn 6 + 100) nR = r1
              have U2 : u1 2 = u 2 := by rw [← hu1]; exact va_ne (by omega)
              refine z_astore X (lv' := [(4, .ref (ad1 (cn 6 + 100))), (0, .ref (ad 0)), (1, .long sc), (3, .int (nI (cn 4 + i)))]) dX3_bale_56 (by decide) rfl ?_
              refine z_lv (lv' := [(4, .ref (ad2 (cn 6 + 100))), (0, .ref (ad2 0)), (1, .long sc), (3, .int (nI (cn 4 + i)))]) [0, 1, 2, 3] (by rw [A1, A0 0 (by omega) (by omega)]; rfl) ?_
              refine z_aload_n X 1 dX3_bale_58 rfl rfl ?_
              refine z_get X (v := .int (nI (cn1 4))) 0 4 wa_X3 rfl rfl (CF_at (k := 0) rfl (va_ne (by omega)) rfl rfl rfl) (by decide) q_89 rfl rfl dX3_bale_59 ?_
              refine z_top (v' := .int (nI (cn 4))) (by rw [B14]) ?_
              refine z_istore X (lv' := [(5, .int (nI (cn 4))), (4, .ref (ad2 (cn 6 + 100))), (0, .ref (ad2 0)), (1, .long sc), (3, .int (nI (cn 4 + i)))]) dX3_bale_62 (by decide) rfl ?_
              refine z_lv (lv' := [(0, .ref (ad2 0)), (3, .int (nI (cn 4 + i))), (4, .ref (ad2 (cn 6 + 100))), (5, .int (nI (cn 4)))]) [2, 4, 1, 0] rfl ?_
              have lp64 : ∀ (fu64 : Nat) (n : Nat), (n ≤ i) → i + 1 ≤ n + fu64 → Z G B 6 ad (CF cy ad cn u w x r) p l e ({ frames := 2, cells := 2, slots := 13, locals := 43 } : Room) s m args below meth c (zEnd G B ad (CF cy ad cn u w x r) below args s ({ frames := 2, cells := 2, slots := 13, locals := 43 } : Room) (fun v ad' f' => v = some (.int (if okBaleC cn w sc then nI (cn 6) else -1)) ∧ (if okBaleC cn w sc then ∃ a9 b9, zad (zad ad (cn 6 + 100) a9) (cn 6 + 200) b9 = ad' ∧ CF cy ad' (va_up (va_up (nwC cn) 4 (cn 4 + scanF (fun f => decide (¬ w 1 (cn 4 + f) ≤ sc)) (cn 3 - cn 4) 0)) 6 (cn 6 + 1)) (nwU u (cn 6 + 100)) (va_up w (cn 6 + 200) (gAcc (u 2) (w 3) (cn 4) (scanF (fun f => decide (¬ w 1 (cn 4 + f) ≤ sc)) (cn 3 - cn 4) 0))) (nwX x (cn 6 + 100)) (va_up (nwR r (cn 6 + 100)) 6 (va_up (nwR r (cn 6 + 100) 6) (cn 6) (some (ad' (cn 6 + 100))))) = f' else ad = ad' ∧ CF cy ad cn u w x r = f'))) ad2 (CF cy ad2 cn1 u1 (va_up w (cn 6 + 200) (gAcc (u 2) (w 3) (cn 4) n)) x1 r1) 2 13 64 [(0, .ref (ad2 0)), (3, .int (nI (cn 4 + i))), (4, .ref (ad2 (cn 6 + 100))), (5, .int (nI (cn 4 + n)))] [] := by
                intro fu64
                induction fu64 with
                | zero => intro n hn hm64; exact absurd hm64 (by omega)
                | succ fu64 ih64 =>
                  intro n hn hm64
                  refine z_iload X 3 dX3_bale_64 rfl ?_
                  refine z_iload_n X 1 dX3_bale_66 rfl rfl ?_
                  refine z_icmp_geN X (tgt := 95) (by omega) (by omega) dX3_bale_67 (by decide) (fun c67 => ?_) (fun c67 => ?_)
                  · have e8 : i = n := by omega
                    subst e8
                    refine z_aload_n X 0 dX3_bale_95 rfl rfl ?_
                    refine z_iload_n X 1 dX3_bale_96 rfl rfl ?_
                    refine z_put X (ty := .int) 0 4 wa_X3 tyX3 tyX3_ok nmX3 rfl rfl (CF_at (k := 0) rfl (va_ne (by omega)) rfl rfl rfl) (by decide) q_89 rfl rfl (by decide +kernel) rfl rfl (Nat.le_of_ble_eq_true rfl) dX3_bale_97 ?_
                    refine z_f (CF_c (cn' := va_up cn1 4 (cn 4 + i)) 0 (Or.inl rfl) rfl rfl rfl rfl (fun _ => rfl) (fun h => absurd h (by decide))) ?_
                    refine z_aload_n X 0 dX3_bale_100 rfl rfl ?_
                    refine z_aload X 2 dX3_bale_101 rfl ?_
                    refine z_callV X (n := 1) (As := [.ref (ad2 (cn 6 + 100))]) (rest := []) 0 rfl (CF_at (k := 0) rfl (va_ne (by omega)) rfl rfl rfl) rfl (p_keepBale l G cy B ad2 (va_up cn1 4 (cn 4 + i)) u1 (va_up w (cn 6 + 200) (gAcc (u 2) (w 3) (cn 4) i)) x1 r1 (cn 6) (show cn1 6 = cn 6 from B16) (by omega) (show cn1 30 = cn 6 + 1 from B130)) q_187 q_188 q_1 q_24 q_189 (by decide +kernel) ⟨Nat.le_of_ble_eq_true rfl, Nat.le_of_ble_eq_true rfl⟩ rfl rfl (Nat.le_of_ble_eq_true rfl) dX3_bale_103 ⟨Nat.le_of_ble_eq_true rfl, Nat.le_of_ble_eq_true rfl⟩ (fun v ad' f' hp had => ?_)
                    obtain ⟨rfl, rfl, rfl⟩ := hp
                    refine z_st (st' := [.int (nI (cn 6))]) rfl ?_
                    refine z_iret X (Nat.le_of_ble_eq_true rfl) (Nat.le_of_ble_eq_true rfl) ?_ dX3_bale_106
                    have e9 : scanF (fun f => decide (¬ w 1 (cn 4 + f) ≤ sc)) (cn 3 - cn 4) 0 = i := e7
                    have h9 : okBaleC cn w sc := ⟨by omega, by rw [e9]; omega⟩
                    rw [if_pos h9, if_pos h9, e9]
                    subst hr1 hx1 hu1 hcn1
                    exact ⟨rfl, _, _, by rw [hA1]; exact hA2, rfl⟩
                  · refine z_aload X 2 dX3_bale_70 rfl ?_
                    refine z_aload_n X 0 dX3_bale_72 rfl rfl ?_
                    refine z_get X (v := .ref (ad2 2)) 0 1 wa_X3 rfl rfl (CF_at (k := 0) rfl (va_ne (by omega)) rfl rfl rfl) (by decide) q_86 rfl rfl dX3_bale_73 ?_
                    refine z_iload X 3 dX3_bale_76 rfl ?_
                    refine z_ialdN X (n := 200) (g := u1 2) 2 rfl (CF_at (k := 2) rfl (va_ne (by omega)) rfl rfl rfl) (by omega) (by decide) dX3_bale_78 ?_
                    refine z_top (v' := .int (u 2 (cn 4 + n))) (by rw [U2]) ?_
                    refine z_aload_n X 0 dX3_bale_79 rfl rfl ?_
                    refine z_get X (v := .ref (ad2 3)) 0 2 wa_X3 rfl rfl (CF_at (k := 0) rfl (va_ne (by omega)) rfl rfl rfl) (by decide) q_87 rfl rfl dX3_bale_80 ?_
                    refine z_iload X 3 dX3_bale_83 rfl ?_
                    refine z_laldN X (n := 200) (g := w 3) 3 rfl (CF_at (k := 3) rfl (va_ne (by omega)) rfl rfl rfl) (by omega) (by decide) dX3_bale_85 ?_
                    refine z_callV X (n := 2) (As := [.int (u 2 (cn 4 + n)), .long ((w 3) (cn 4 + n))]) (rest := []) (cn 6 + 100) rfl (CF_at (k := cn 6 + 100) rfl (va_ne (by omega)) rfl rfl (cAt_b (i := cn 6) (by omega) (by omega))) rfl (b_addGrams l G cy B ad2 (CF cy ad2 cn1 u1 (va_up w (cn 6 + 200) (gAcc (u 2) (w 3) (cn 4) n)) x1 r1) (cn 6 + 100) (cn 6 + 200) ((x1 (cn 6 + 100)) 1) ((u1 (cn 6 + 100)) 2) ((u1 (cn 6 + 100)) 3) ((u1 (cn 6 + 100)) 4) ((u1 (cn 6 + 100)) 5) ((u1 (cn 6 + 100)) 6) ((r1 (cn 6 + 100)) 7) ((r1 (cn 6 + 100)) 8) (gAcc (u 2) (w 3) (cn 4) n) (CF_at (k := cn 6 + 100) rfl (va_ne (by omega)) rfl rfl (cAt_b (i := cn 6) (by omega) (by omega))) (CF_at (k := cn 6 + 200) rfl va_same rfl rfl (cAt_g (i := cn 6) (by omega) (by omega))) (u 2 (cn 4 + n)) (w 3 (cn 4 + n)) (hok _ (by omega))) q_183 q_184 q_185 q_30 q_186 (by decide +kernel) ⟨Nat.le_of_ble_eq_true rfl, Nat.le_of_ble_eq_true rfl⟩ rfl rfl (Nat.le_of_ble_eq_true rfl) dX3_bale_86 ⟨Nat.le_of_ble_eq_true rfl, Nat.le_of_ble_eq_true rfl⟩ (fun v ad' f' hp had => ?_)
                    obtain ⟨rfl, rfl, rfl⟩ := hp
                    refine z_st (st' := []) rfl ?_
                    refine z_f (CFs_w (k := cn 6 + 200) (gAcc (u 2) (w 3) (cn 4) (n + 1)) rfl rfl rfl (cAt_g (i := cn 6) (by omega) (by omega))) ?_
                    refine z_f (congrArg (fun z => CF cy ad2 cn1 u1 z x1 r1) (show va_up (va_up w (cn 6 + 200) (gAcc (u 2) (w 3) (cn 4) n)) (cn 6 + 200) (gAcc (u 2) (w 3) (cn 4) (n + 1)) = va_up w (cn 6 + 200) (gAcc (u 2) (w 3) (cn 4) (n + 1)) from up_up)) ?_
                    refine z_iincN X 3 (k := 1) (lv' := [(5, .int (nI (cn 4 + n + 1))), (0, .ref (ad2 0)), (3, .int (nI (cn 4 + i))), (4, .ref (ad2 (cn 6 + 100)))]) dX3_bale_89 rfl (by decide) (by decide) rfl ?_
                    refine z_goto X (tgt := 64) dX3_bale_92 (by decide) ?_
                    refine z_lv (lv' := [(0, .ref (ad2 0)), (3, .int (nI (cn 4 + i))), (4, .ref (ad2 (cn 6 + 100))), (5, .int (nI (cn 4 + n + 1)))]) [1, 2, 3, 0] rfl ?_
                    exact ih64 (n + 1) (by omega) (by omega)
              refine z_f (show CF cy ad2 cn1 u1 (va_up w (cn 6 + 200) (fun _ => 0)) x1 r1 = CF cy ad2 cn1 u1 (va_up w (cn 6 + 200) (gAcc (u 2) (w 3) (cn 4) 0)) x1 r1 from rfl) ?_
              exact lp64 (i + 1) 0 (by omega) (by omega)
            · refine z_iconst X (v := -1) dX3_bale_47 (by decide) ?_
              refine z_iret X (Nat.le_of_ble_eq_true rfl) (Nat.le_of_ble_eq_true rfl) ?_ dX3_bale_48
              have e9 : scanF (fun f => decide (¬ w 1 (cn 4 + f) ≤ sc)) (cn 3 - cn 4) 0 = i := by rw [← hs]; exact scanF_y (by omega) (decide_eq_true (Int64.not_le.mpr c20))
              have h9 : ¬ okBaleC cn w sc := fun h9 => h9.2 (by rw [e9]; omega)
              rw [if_neg h9, if_neg h9]
              exact ⟨rfl, rfl, rfl⟩
        · refine z_iincN X 2 (k := 1) (lv' := [(3, .int (nI (cn 4 + i + 1))), (0, .ref (ad 0)), (1, .long sc)]) dX3_bale_24 rfl (by decide) (by decide) rfl ?_
          refine z_goto X (tgt := 5) dX3_bale_27 (by decide) ?_
          refine z_lv (lv' := [(0, .ref (ad 0)), (1, .long sc), (3, .int (nI (cn 4 + i + 1)))]) [1, 2, 0] rfl ?_
          exact ih5 (i + 1) (by omega) (by rw [← hs]; exact scanF_n (by omega) (decide_eq_false (fun h => h (Int64.not_lt.mp c20)))) (by omega)
  exact lp5 (cn 3 + 1) 0 (by omega) (by rfl) (by omega)
set_option maxHeartbeats 4000000 in
set_option maxRecDepth 100000 in
theorem p_rebale_i (l : Launch) (G : va_G) (cy : Nat → ClassId) (B : Nat) (ad : Nat → Nat) (cn : Nat → Nat) (u : Nat → Nat → Int32) (w : Nat → Nat → Int64) (x : Nat → Nat → UInt64) (r : Nat → Nat → Option Nat) (hI : CI ad cn r) (a : Nat) (ha : a < cn 6) (b : Nat) (hb : b < cn 6) : Ct l G cy B yX3_rebale cX3_rebale 6 (some .int) ({ frames := 3, cells := 2, slots := 13, locals := 66 } : Room) ad (CF cy ad cn u w x r) [.ref (ad 0), .int (nI a), .int (nI b)] (fun v ad' f' => v = some (.int (if okRebC cn u a b then nI (cn 6) else -1)) ∧ (if okRebC cn u a b then ∃ a9 b9, zad (zad ad (cn 6 + 100) a9) (cn 6 + 200) b9 = ad' ∧ CF cy ad' (va_up (nwC cn) 6 (cn 6 + 1)) (va_up (va_up (nwU u (cn 6 + 100)) (a + 100) (upd ((nwU u (cn 6 + 100)) (a + 100)) 4 (nI 3))) (b + 100) (upd ((nwU u (cn 6 + 100)) (b + 100)) 4 (nI 3))) (va_up w (cn 6 + 200) (mkG (fun _ => 0) (w (a + 200)) (w (b + 200)) 4)) (va_up (nwX x (cn 6 + 100)) (cn 6 + 100) (fun _ => if dGe ((nwX x (cn 6 + 100)) (a + 100) 1) ((nwX x (cn 6 + 100)) (b + 100) 1) = true then (nwX x (cn 6 + 100)) (a + 100) 1 else (nwX x (cn 6 + 100)) (b + 100) 1)) (va_up (va_up (nwR r (cn 6 + 100)) (cn 6 + 100) (rPair (ad' (a + 100)) (ad' (b + 100)))) 6 (va_up (va_up (nwR r (cn 6 + 100)) (cn 6 + 100) (rPair (ad' (a + 100)) (ad' (b + 100))) 6) (cn 6) (some (ad' (cn 6 + 100))))) = f' else ad = ad' ∧ CF cy ad cn u w x r = f')) := by
  refine ct_of (by decide +kernel) (Nat.le_of_ble_eq_true rfl) ?_
  intro p e s m args below meth c X hnm
  have hI0 := hI
  obtain ⟨⟨hc3, hc4, hc6, hc9, hc12, hc14⟩, ⟨h30, h31, h32⟩, hr6, hr12, hr14⟩ := hI0
  refine z_lv (lv' := [(0, .ref (ad 0)), (1, .int (nI a)), (2, .int (nI b))]) [0, 1, 2] rfl ?_
  refine z_aload_n X 0 dX3_rebale_0 rfl rfl ?_
  refine z_iload_n X 1 dX3_rebale_1 rfl rfl ?_
  refine z_callV X (n := 1) (As := [.int (nI a)]) (rest := []) 0 rfl (CF_at (k := 0) rfl rfl rfl rfl rfl) rfl (p_findBale_i l G cy B ad cn u w x r hI a ha) q_194 q_195 q_2 q_24 q_196 (by decide +kernel) ⟨Nat.le_of_ble_eq_true rfl, Nat.le_of_ble_eq_true rfl⟩ rfl rfl (Nat.le_of_ble_eq_true rfl) dX3_rebale_2 ⟨Nat.le_of_ble_eq_true rfl, Nat.le_of_ble_eq_true rfl⟩ (fun v ad' f' hp had => ?_)
  obtain ⟨rfl, rfl, rfl⟩ := hp
  refine z_st (st' := [.ref (ad (a + 100))]) rfl ?_
  refine z_astore_n X (lv' := [(3, .ref (ad (a + 100))), (0, .ref (ad 0)), (1, .int (nI a)), (2, .int (nI b))]) dX3_rebale_5 rfl (by decide) rfl ?_
  refine z_aload_n X 1 dX3_rebale_6 rfl rfl ?_
  refine z_iload_n X 3 dX3_rebale_7 rfl rfl ?_
  refine z_callV X (n := 1) (As := [.int (nI b)]) (rest := []) 0 rfl (CF_at (k := 0) rfl rfl rfl rfl rfl) rfl (p_findBale_i l G cy B ad cn u w x r hI b hb) q_194 q_195 q_2 q_24 q_196 (by decide +kernel) ⟨Nat.le_of_ble_eq_true rfl, Nat.le_of_ble_eq_true rfl⟩ rfl rfl (Nat.le_of_ble_eq_true rfl) dX3_rebale_8 ⟨Nat.le_of_ble_eq_true rfl, Nat.le_of_ble_eq_true rfl⟩ (fun v ad' f' hp had => ?_)
  obtain ⟨rfl, rfl, rfl⟩ := hp
  refine z_st (st' := [.ref (ad (b + 100))]) rfl ?_
  refine z_astore X (lv' := [(4, .ref (ad (b + 100))), (3, .ref (ad (a + 100))), (0, .ref (ad 0)), (1, .int (nI a)), (2, .int (nI b))]) dX3_rebale_11 (by decide) rfl ?_
  refine z_aload_n X 1 dX3_rebale_13 rfl rfl ?_
  refine z_ifnull X dX3_rebale_14 ?_
  refine z_aload X 0 dX3_rebale_17 rfl ?_
  refine z_ifnull X dX3_rebale_19 ?_
  refine z_iload_n X 3 dX3_rebale_22 rfl rfl ?_
  refine z_iload_n X 4 dX3_rebale_23 rfl rfl ?_
  refine z_icmp_eqN X (tgt := 36) (by omega) (by omega) dX3_rebale_24 (by decide) (fun c24 => ?_) (fun c24 => ?_)
  · refine z_iconst X (v := -1) dX3_rebale_36 (by decide) ?_
    refine z_iret X (Nat.le_of_ble_eq_true rfl) (Nat.le_of_ble_eq_true rfl) ?_ dX3_rebale_37
    have h9 : ¬ okRebC cn u a b := fun h9 => h9.1 c24
    rw [if_neg h9, if_neg h9]
    exact ⟨rfl, rfl, rfl⟩
  · refine z_aload_n X 2 dX3_rebale_27 rfl rfl ?_
    refine z_get X (v := .int (nI (cn 6))) 0 6 wa_X3 rfl rfl (CF_at (k := 0) rfl rfl rfl rfl rfl) (by decide) q_91 rfl rfl dX3_rebale_28 ?_
    refine z_bipush X (v := nI 12) dX3_rebale_31 (by decide) ?_
    refine z_icmp_ltN X (tgt := 38) (by omega) (by omega) dX3_rebale_33 (by decide) (fun c33 => ?_) (fun c33 => ?_)
    · refine z_aload_n X 1 dX3_rebale_38 rfl rfl ?_
      refine z_getN X (v := .int (u (a + 100) 4)) (a + 100) 4 wa_X0 rfl rfl (CF_at (k := a + 100) rfl rfl rfl rfl (cAt_b (i := a) (by omega) (by omega))) (by decide) (List.mem_of_getElem? (i := 2) rfl) rfl rfl dX3_rebale_39 ?_
      refine z_if_ne X (tgt := 53) dX3_rebale_42 (by decide) (fun c42 => ?_) (fun c42 => ?_)
      · refine z_iconst X (v := -1) dX3_rebale_53 (by decide) ?_
        refine z_iret X (Nat.le_of_ble_eq_true rfl) (Nat.le_of_ble_eq_true rfl) ?_ dX3_rebale_54
        have h9 : ¬ okRebC cn u a b := fun h9 => c42 h9.2.2.1
        rw [if_neg h9, if_neg h9]
        exact ⟨rfl, rfl, rfl⟩
      · refine z_aload X 0 dX3_rebale_45 rfl ?_
        refine z_getN X (v := .int (u (b + 100) 4)) (b + 100) 4 wa_X0 rfl rfl (CF_at (k := b + 100) rfl rfl rfl rfl (cAt_b (i := b) (by omega) (by omega))) (by decide) (List.mem_of_getElem? (i := 2) rfl) rfl rfl dX3_rebale_47 ?_
        refine z_if_eq X (tgt := 55) dX3_rebale_50 (by decide) (fun c50 => ?_) (fun c50 => ?_)
        · refine z_new X (ci := 1) (fs := [.null, .double 0, .int 0, .int 0, .int 0, .int 0, .int 0, .null, .null]) (cn 6 + 100) wa_X0 tyX0 tyX0_ok rfl (CF_nX0 (by omega) (by omega)) q_48 q_150 q_30 (by decide) (Nat.le_of_ble_eq_true rfl) (Nat.le_of_ble_eq_true rfl) dX3_rebale_55 (fun a55 => ?_)
          generalize hA1 : zad ad (cn 6 + 100) a55 = ad1
          have A9 : a55 = ad1 (cn 6 + 100) := by rw [← hA1, zad_same]
          subst A9
          refine z_dup X dX3_rebale_58 rfl ?_
          refine z_callI X (n := 0) (As := []) (rest := [.ref (ad1 (cn 6 + 100))]) (b_init l G cy B ad1 (zup (CF cy ad cn u w x r) (cn 6 + 100) (.inr (1, [.null, .double 0, .int 0, .int 0, .int 0, .int 0, .int 0, .null, .null]))) (cn 6 + 100) (cn 6 + 200) (by omega) zup_same ((zup_ne (by omega)).trans (CF_nG (by omega) (by omega)))) q_151 q_152 q_30 q_153 rfl (by decide +kernel) ⟨Nat.le_of_ble_eq_true rfl, Nat.le_of_ble_eq_true rfl⟩ rfl rfl (Nat.le_of_ble_eq_true rfl) dX3_rebale_59 ⟨Nat.le_of_ble_eq_true rfl, Nat.le_of_ble_eq_true rfl⟩ (fun v ad' f' hp had => ?_)
          obtain ⟨rfl, a9, rfl, rfl⟩ := hp
          generalize hA2 : zad ad1 (cn 6 + 200) a9 = ad2
          have A8 : a9 = ad2 (cn 6 + 200) := by rw [← hA2, zad_same]
          subst A8
          have A0 : ∀ k, k ≠ cn 6 + 100 → k ≠ cn 6 + 200 → ad2 k = ad k := fun k h1 h2 => by rw [← hA2, zad_ne h2, ← hA1, zad_ne h1]
          have A1 : ad2 (cn 6 + 100) = ad1 (cn 6 + 100) := by rw [← hA2]; exact zad_ne (by omega)
          refine z_st (st' := [.ref (ad1 (cn 6 + 100))]) rfl ?_
          refine z_f (CF_newB (n := cn 6) nU (fun _ => 0) nX nR (by omega) (by omega) A0 rfl rfl) ?_
          generalize hcn1 : va_up cn 30 (cn 6 + 1) = cn1
          have B13 : cn1 3 = cn 3 := by rw [← hcn1]; rfl
          have B14 : cn1 4 = cn 4 := by rw [← hcn1]; rfl
          have B16 : cn1 6 = cn 6 := by rw [← hcn1]; rfl
          have B19 : cn1 9 = cn 9 := by rw [← hcn1]; rfl
          have B112 : cn1 12 = cn 12 := by rw [← hcn1]; rfl
          have B114 : cn1 14 = cn 14 := by rw [← hcn1]; rfl
          have B116 : cn1 16 = cn 16 := by rw [← hcn1]; rfl
          have B130 : cn1 30 = cn 6 + 1 := by rw [← hcn1]; rfl
          have B131 : cn1 31 = cn 31 := by rw [← hcn1]; rfl
          have B132 : cn1 32 = cn 32 := by rw [← hcn1]; rfl
          generalize hu1 : va_up u (cn 6 + 100) nU = u1
          generalize hx1 : va_up x (cn 6 + 100) nX = x1
          generalize hr1 : va_up r (cn 6 + 100) nR = r1
          have U2 : u1 2 = u 2 := by rw [← hu1]; exact va_ne (by omega)
          refine z_astore X (lv' := [(5, .ref (ad1 (cn 6 + 100))), (4, .ref (ad (b + 100))), (3, .ref (ad (a + 100))), (0, .ref (ad 0)), (1, .int (nI a)), (2, .int (nI b))]) dX3_rebale_62 (by decide) rfl ?_
          refine z_lv (lv' := [(5, .ref (ad2 (cn 6 + 100))), (4, .ref (ad2 (b + 100))), (3, .ref (ad2 (a + 100))), (0, .ref (ad2 0)), (1, .int (nI a)), (2, .int (nI b))]) [0, 1, 2, 3, 4, 5] (by rw [A1, A0 (b + 100) (by omega) (by omega), A0 (a + 100) (by omega) (by omega), A0 0 (by omega) (by omega)]; rfl) ?_
          refine z_aload X 0 dX3_rebale_64 rfl ?_
          refine z_aload_n X 2 dX3_rebale_66 rfl rfl ?_
          refine z_aload X 1 dX3_rebale_67 rfl ?_
          refine z_callV X (n := 2) (As := [.ref (ad2 (a + 100)), .ref (ad2 (b + 100))]) (rest := []) (cn 6 + 100) rfl (CF_at (k := cn 6 + 100) rfl (va_ne (by omega)) rfl rfl (cAt_b (i := cn 6) (by omega) (by omega))) rfl (b_makeOf l G cy B ad2 (CF cy ad2 cn1 u1 (va_up w (cn 6 + 200) (fun _ => 0)) x1 r1) (cn 6 + 100) (cn 6 + 200) ((x1 (cn 6 + 100)) 1) ((u1 (cn 6 + 100)) 2) ((u1 (cn 6 + 100)) 3) ((u1 (cn 6 + 100)) 4) ((u1 (cn 6 + 100)) 5) ((u1 (cn 6 + 100)) 6) ((r1 (cn 6 + 100)) 7) ((r1 (cn 6 + 100)) 8) (fun _ => 0) (CF_at (k := cn 6 + 100) rfl (va_ne (by omega)) rfl rfl (cAt_b (i := cn 6) (by omega) (by omega))) (CF_at (k := cn 6 + 200) rfl va_same rfl rfl (cAt_g (i := cn 6) (by omega) (by omega))) (by omega) (a + 100) (a + 200) (b + 100) (b + 200) (by omega) (by omega) (by omega) (by omega) (by omega) (by omega) (by omega) (by omega) ((x1 (a + 100)) 1) ((u1 (a + 100)) 2) ((u1 (a + 100)) 3) ((u1 (a + 100)) 4) ((u1 (a + 100)) 5) ((u1 (a + 100)) 6) ((r1 (a + 100)) 7) ((r1 (a + 100)) 8) (w (a + 200)) (CF_at (k := a + 100) rfl (va_ne (by omega)) rfl rfl (cAt_b (i := a) (by omega) (by omega))) (CF_at (k := a + 200) rfl (va_ne (by omega)) rfl rfl (cAt_g (i := a) (by omega) (by omega))) ((x1 (b + 100)) 1) ((u1 (b + 100)) 2) ((u1 (b + 100)) 3) ((u1 (b + 100)) 4) ((u1 (b + 100)) 5) ((u1 (b + 100)) 6) ((r1 (b + 100)) 7) ((r1 (b + 100)) 8) (w (b + 200)) (CF_at (k := b + 100) rfl (va_ne (by omega)) rfl rfl (cAt_b (i := b) (by omega) (by omega))) (CF_at (k := b + 200) rfl (va_ne (by omega)) rfl rfl (cAt_g (i := b) (by omega) (by omega)))) q_378 q_379 q_380 q_30 q_381 (by decide +kernel) ⟨Nat.le_of_ble_eq_true rfl, Nat.le_of_ble_eq_true rfl⟩ rfl rfl (Nat.le_of_ble_eq_true rfl) dX3_rebale_69 ⟨Nat.le_of_ble_eq_true rfl, Nat.le_of_ble_eq_true rfl⟩ (fun v ad' f' hp had => ?_)
          obtain ⟨rfl, rfl, rfl⟩ := hp
          refine z_st (st' := []) rfl ?_
          refine z_f (Eq.trans (congrArg (fun z => zup z (cn 6 + 100) _) (CFs_w (k := cn 6 + 200) (mkG (fun _ => 0) (w (a + 200)) (w (b + 200)) 4) rfl rfl rfl (cAt_g (i := cn 6) (by omega) (by omega)))) (CF_xr (k := cn 6 + 100) (fun _ => if dGe (x1 (a + 100) 1) (x1 (b + 100) 1) = true then x1 (a + 100) 1 else x1 (b + 100) 1) (rPair (ad2 (a + 100)) (ad2 (b + 100))) (cAt_b (i := cn 6) (by omega) (by omega)))) ?_
          refine z_f (congrArg (fun z => CF cy ad2 cn1 u1 z (va_up x1 (cn 6 + 100) (fun _ => if dGe (x1 (a + 100) 1) (x1 (b + 100) 1) = true then x1 (a + 100) 1 else x1 (b + 100) 1)) (va_up r1 (cn 6 + 100) (rPair (ad2 (a + 100)) (ad2 (b + 100))))) (show va_up (va_up w (cn 6 + 200) (fun _ => 0)) (cn 6 + 200) (mkG (fun _ => 0) (w (a + 200)) (w (b + 200)) 4) = va_up w (cn 6 + 200) (mkG (fun _ => 0) (w (a + 200)) (w (b + 200)) 4) from up_up)) ?_
          refine z_aload_n X 2 dX3_rebale_72 rfl rfl ?_
          refine z_iconst X (v := nI 3) dX3_rebale_73 (by decide) ?_
          refine z_putN X (ty := .int) (a + 100) 4 wa_X0 tyX0 tyX0_ok nmX0 rfl rfl (CF_at (k := a + 100) rfl (va_ne (by omega)) (va_ne (by omega)) (va_ne (by omega)) (cAt_b (i := a) (by omega) (by omega))) (by decide) (List.mem_of_getElem? (i := 2) rfl) rfl rfl (by decide +kernel) rfl rfl (Nat.le_of_ble_eq_true rfl) dX3_rebale_74 ?_
          refine z_f (CFs_u (k := a + 100) (upd (u1 (a + 100)) 4 (nI 3)) (va_ne (by omega)) (va_ne (by omega)) (va_ne (by omega)) (cAt_b (i := a) (by omega) (by omega))) ?_
          refine z_aload X 1 dX3_rebale_77 rfl ?_
          refine z_iconst X (v := nI 3) dX3_rebale_79 (by decide) ?_
          refine z_putN X (ty := .int) (b + 100) 4 wa_X0 tyX0 tyX0_ok nmX0 rfl rfl (CF_at (k := b + 100) (va_ne (by omega)) (va_ne (by omega)) (va_ne (by omega)) (va_ne (by omega)) (cAt_b (i := b) (by omega) (by omega))) (by decide) (List.mem_of_getElem? (i := 2) rfl) rfl rfl (by decide +kernel) rfl rfl (Nat.le_of_ble_eq_true rfl) dX3_rebale_80 ?_
          refine z_f (CFs_u (k := b + 100) (upd (u1 (b + 100)) 4 (nI 3)) (va_ne (by omega)) (va_ne (by omega)) (va_ne (by omega)) (cAt_b (i := b) (by omega) (by omega))) ?_
          refine z_aload_n X 3 dX3_rebale_83 rfl rfl ?_
          refine z_aload X 0 dX3_rebale_84 rfl ?_
          refine z_callV X (n := 1) (As := [.ref (ad2 (cn 6 + 100))]) (rest := []) 0 rfl (CF_at (k := 0) ((va_ne (by omega)).trans (va_ne (by omega))) (va_ne (by omega)) (va_ne (by omega)) (va_ne (by omega)) rfl) rfl (p_keepBale l G cy B ad2 cn1 (va_up (va_up u1 (a + 100) (upd (u1 (a + 100)) 4 (nI 3))) (b + 100) (upd (u1 (b + 100)) 4 (nI 3))) (va_up w (cn 6 + 200) (mkG (fun _ => 0) (w (a + 200)) (w (b + 200)) 4)) (va_up x1 (cn 6 + 100) ((fun _ => if dGe (x1 (a + 100) 1) (x1 (b + 100) 1) = true then x1 (a + 100) 1 else x1 (b + 100) 1))) (va_up r1 (cn 6 + 100) ((rPair (ad2 (a + 100)) (ad2 (b + 100))))) (cn 6) (show cn1 6 = cn 6 from B16) (by omega) (show cn1 30 = cn 6 + 1 from B130)) q_187 q_188 q_1 q_24 q_189 (by decide +kernel) ⟨Nat.le_of_ble_eq_true rfl, Nat.le_of_ble_eq_true rfl⟩ rfl rfl (Nat.le_of_ble_eq_true rfl) dX3_rebale_86 ⟨Nat.le_of_ble_eq_true rfl, Nat.le_of_ble_eq_true rfl⟩ (fun v ad' f' hp had => ?_)
          obtain ⟨rfl, rfl, rfl⟩ := hp
          refine z_st (st' := [.int (nI (cn 6))]) rfl ?_
          refine z_iret X (Nat.le_of_ble_eq_true rfl) (Nat.le_of_ble_eq_true rfl) ?_ dX3_rebale_89
          have h9 : okRebC cn u a b := ⟨c24, by omega, by simpa using c42, by simpa using c50⟩
          rw [if_pos h9, if_pos h9]
          subst hr1 hx1 hu1 hcn1
          exact ⟨rfl, _, _, by rw [hA1]; exact hA2, rfl⟩
        · refine z_iconst X (v := -1) dX3_rebale_53 (by decide) ?_
          refine z_iret X (Nat.le_of_ble_eq_true rfl) (Nat.le_of_ble_eq_true rfl) ?_ dX3_rebale_54
          have h9 : ¬ okRebC cn u a b := fun h9 => c50 h9.2.2.2
          rw [if_neg h9, if_neg h9]
          exact ⟨rfl, rfl, rfl⟩
    · refine z_iconst X (v := -1) dX3_rebale_36 (by decide) ?_
      refine z_iret X (Nat.le_of_ble_eq_true rfl) (Nat.le_of_ble_eq_true rfl) ?_ dX3_rebale_37
      have h9 : ¬ okRebC cn u a b := fun h9 => absurd h9.2.1 (by omega)
      rw [if_neg h9, if_neg h9]
      exact ⟨rfl, rfl, rfl⟩
set_option maxHeartbeats 4000000 in
set_option maxRecDepth 100000 in
theorem p_rebale_o1i (l : Launch) (G : va_G) (cy : Nat → ClassId) (B : Nat) (ad : Nat → Nat) (cn : Nat → Nat) (u : Nat → Nat → Int32) (w : Nat → Nat → Int64) (x : Nat → Nat → UInt64) (r : Nat → Nat → Option Nat) (hI : CI ad cn r) (b : Int32) (hb : ¬ (¬ b < 0 ∧ ¬ nI (cn 6) ≤ b)) (j : Nat) (hj : j < cn 6) : Ct l G cy B yX3_rebale cX3_rebale 6 (some .int) ({ frames := 1, cells := 0, slots := 0, locals := 21 } : Room) ad (CF cy ad cn u w x r) [.ref (ad 0), .int b, .int (nI j)] (fun v ad' f' => v = some (.int (-1)) ∧ ad = ad' ∧ CF cy ad cn u w x r = f') := by
  refine ct_of (by decide +kernel) (Nat.le_of_ble_eq_true rfl) ?_
  intro p e s m args below meth c X hnm
  have hI0 := hI
  obtain ⟨⟨hc3, hc4, hc6, hc9, hc12, hc14⟩, ⟨h30, h31, h32⟩, hr6, hr12, hr14⟩ := hI0
  refine z_lv (lv' := [(0, .ref (ad 0)), (1, .int b), (2, .int (nI j))]) [0, 1, 2] rfl ?_
  refine z_aload_n X 0 dX3_rebale_0 rfl rfl ?_
  refine z_iload_n X 1 dX3_rebale_1 rfl rfl ?_
  refine z_callV X (n := 1) (As := [.int b]) (rest := []) 0 rfl (CF_at (k := 0) rfl rfl rfl rfl rfl) rfl (p_findBale_o l G cy B ad cn u w x r hI b hb) q_194 q_195 q_2 q_24 q_196 (by decide +kernel) ⟨Nat.le_of_ble_eq_true rfl, Nat.le_of_ble_eq_true rfl⟩ rfl rfl (Nat.le_of_ble_eq_true rfl) dX3_rebale_2 ⟨Nat.le_of_ble_eq_true rfl, Nat.le_of_ble_eq_true rfl⟩ (fun v ad' f' hp had => ?_)
  obtain ⟨rfl, rfl, rfl⟩ := hp
  refine z_st (st' := [.null]) rfl ?_
  refine z_astore_nN X (lv' := [(3, .null), (0, .ref (ad 0)), (1, .int b), (2, .int (nI j))]) dX3_rebale_5 rfl (by decide) rfl ?_
  refine z_aload_n X 1 dX3_rebale_6 rfl rfl ?_
  refine z_iload_n X 3 dX3_rebale_7 rfl rfl ?_
  refine z_callV X (n := 1) (As := [.int (nI j)]) (rest := []) 0 rfl (CF_at (k := 0) rfl rfl rfl rfl rfl) rfl (p_findBale_i l G cy B ad cn u w x r hI j hj) q_194 q_195 q_2 q_24 q_196 (by decide +kernel) ⟨Nat.le_of_ble_eq_true rfl, Nat.le_of_ble_eq_true rfl⟩ rfl rfl (Nat.le_of_ble_eq_true rfl) dX3_rebale_8 ⟨Nat.le_of_ble_eq_true rfl, Nat.le_of_ble_eq_true rfl⟩ (fun v ad' f' hp had => ?_)
  obtain ⟨rfl, rfl, rfl⟩ := hp
  refine z_st (st' := [.ref (ad (j + 100))]) rfl ?_
  refine z_astore X (lv' := [(4, .ref (ad (j + 100))), (3, .null), (0, .ref (ad 0)), (1, .int b), (2, .int (nI j))]) dX3_rebale_11 (by decide) rfl ?_
  refine z_aload_nN X 1 dX3_rebale_13 rfl rfl ?_
  refine z_ifnullN X (tgt := 36) dX3_rebale_14 (by decide) ?_
  refine z_iconst X (v := -1) dX3_rebale_36 (by decide) ?_
  refine z_iret X (Nat.le_of_ble_eq_true rfl) (Nat.le_of_ble_eq_true rfl) ?_ dX3_rebale_37
  exact ⟨rfl, rfl, rfl⟩
set_option maxHeartbeats 4000000 in
set_option maxRecDepth 100000 in
theorem p_rebale_o1o (l : Launch) (G : va_G) (cy : Nat → ClassId) (B : Nat) (ad : Nat → Nat) (cn : Nat → Nat) (u : Nat → Nat → Int32) (w : Nat → Nat → Int64) (x : Nat → Nat → UInt64) (r : Nat → Nat → Option Nat) (hI : CI ad cn r) (b : Int32) (hb : ¬ (¬ b < 0 ∧ ¬ nI (cn 6) ≤ b)) (b2 : Int32) (hb2 : ¬ (¬ b2 < 0 ∧ ¬ nI (cn 6) ≤ b2)) : Ct l G cy B yX3_rebale cX3_rebale 6 (some .int) ({ frames := 1, cells := 0, slots := 0, locals := 21 } : Room) ad (CF cy ad cn u w x r) [.ref (ad 0), .int b, .int b2] (fun v ad' f' => v = some (.int (-1)) ∧ ad = ad' ∧ CF cy ad cn u w x r = f') := by
  refine ct_of (by decide +kernel) (Nat.le_of_ble_eq_true rfl) ?_
  intro p e s m args below meth c X hnm
  have hI0 := hI
  obtain ⟨⟨hc3, hc4, hc6, hc9, hc12, hc14⟩, ⟨h30, h31, h32⟩, hr6, hr12, hr14⟩ := hI0
  refine z_lv (lv' := [(0, .ref (ad 0)), (1, .int b), (2, .int b2)]) [0, 1, 2] rfl ?_
  refine z_aload_n X 0 dX3_rebale_0 rfl rfl ?_
  refine z_iload_n X 1 dX3_rebale_1 rfl rfl ?_
  refine z_callV X (n := 1) (As := [.int b]) (rest := []) 0 rfl (CF_at (k := 0) rfl rfl rfl rfl rfl) rfl (p_findBale_o l G cy B ad cn u w x r hI b hb) q_194 q_195 q_2 q_24 q_196 (by decide +kernel) ⟨Nat.le_of_ble_eq_true rfl, Nat.le_of_ble_eq_true rfl⟩ rfl rfl (Nat.le_of_ble_eq_true rfl) dX3_rebale_2 ⟨Nat.le_of_ble_eq_true rfl, Nat.le_of_ble_eq_true rfl⟩ (fun v ad' f' hp had => ?_)
  obtain ⟨rfl, rfl, rfl⟩ := hp
  refine z_st (st' := [.null]) rfl ?_
  refine z_astore_nN X (lv' := [(3, .null), (0, .ref (ad 0)), (1, .int b), (2, .int b2)]) dX3_rebale_5 rfl (by decide) rfl ?_
  refine z_aload_n X 1 dX3_rebale_6 rfl rfl ?_
  refine z_iload_n X 3 dX3_rebale_7 rfl rfl ?_
  refine z_callV X (n := 1) (As := [.int b2]) (rest := []) 0 rfl (CF_at (k := 0) rfl rfl rfl rfl rfl) rfl (p_findBale_o l G cy B ad cn u w x r hI b2 hb2) q_194 q_195 q_2 q_24 q_196 (by decide +kernel) ⟨Nat.le_of_ble_eq_true rfl, Nat.le_of_ble_eq_true rfl⟩ rfl rfl (Nat.le_of_ble_eq_true rfl) dX3_rebale_8 ⟨Nat.le_of_ble_eq_true rfl, Nat.le_of_ble_eq_true rfl⟩ (fun v ad' f' hp had => ?_)
  obtain ⟨rfl, rfl, rfl⟩ := hp
  refine z_st (st' := [.null]) rfl ?_
  refine z_astoreN X (lv' := [(4, .null), (3, .null), (0, .ref (ad 0)), (1, .int b), (2, .int b2)]) dX3_rebale_11 (by decide) rfl ?_
  refine z_aload_nN X 1 dX3_rebale_13 rfl rfl ?_
  refine z_ifnullN X (tgt := 36) dX3_rebale_14 (by decide) ?_
  refine z_iconst X (v := -1) dX3_rebale_36 (by decide) ?_
  refine z_iret X (Nat.le_of_ble_eq_true rfl) (Nat.le_of_ble_eq_true rfl) ?_ dX3_rebale_37
  exact ⟨rfl, rfl, rfl⟩
set_option maxHeartbeats 4000000 in
set_option maxRecDepth 100000 in
theorem p_rebale_o2 (l : Launch) (G : va_G) (cy : Nat → ClassId) (B : Nat) (ad : Nat → Nat) (cn : Nat → Nat) (u : Nat → Nat → Int32) (w : Nat → Nat → Int64) (x : Nat → Nat → UInt64) (r : Nat → Nat → Option Nat) (hI : CI ad cn r) (j : Nat) (hj : j < cn 6) (b2 : Int32) (hb2 : ¬ (¬ b2 < 0 ∧ ¬ nI (cn 6) ≤ b2)) : Ct l G cy B yX3_rebale cX3_rebale 6 (some .int) ({ frames := 1, cells := 0, slots := 0, locals := 21 } : Room) ad (CF cy ad cn u w x r) [.ref (ad 0), .int (nI j), .int b2] (fun v ad' f' => v = some (.int (-1)) ∧ ad = ad' ∧ CF cy ad cn u w x r = f') := by
  refine ct_of (by decide +kernel) (Nat.le_of_ble_eq_true rfl) ?_
  intro p e s m args below meth c X hnm
  have hI0 := hI
  obtain ⟨⟨hc3, hc4, hc6, hc9, hc12, hc14⟩, ⟨h30, h31, h32⟩, hr6, hr12, hr14⟩ := hI0
  refine z_lv (lv' := [(0, .ref (ad 0)), (1, .int (nI j)), (2, .int b2)]) [0, 1, 2] rfl ?_
  refine z_aload_n X 0 dX3_rebale_0 rfl rfl ?_
  refine z_iload_n X 1 dX3_rebale_1 rfl rfl ?_
  refine z_callV X (n := 1) (As := [.int (nI j)]) (rest := []) 0 rfl (CF_at (k := 0) rfl rfl rfl rfl rfl) rfl (p_findBale_i l G cy B ad cn u w x r hI j hj) q_194 q_195 q_2 q_24 q_196 (by decide +kernel) ⟨Nat.le_of_ble_eq_true rfl, Nat.le_of_ble_eq_true rfl⟩ rfl rfl (Nat.le_of_ble_eq_true rfl) dX3_rebale_2 ⟨Nat.le_of_ble_eq_true rfl, Nat.le_of_ble_eq_true rfl⟩ (fun v ad' f' hp had => ?_)
  obtain ⟨rfl, rfl, rfl⟩ := hp
  refine z_st (st' := [.ref (ad (j + 100))]) rfl ?_
  refine z_astore_n X (lv' := [(3, .ref (ad (j + 100))), (0, .ref (ad 0)), (1, .int (nI j)), (2, .int b2)]) dX3_rebale_5 rfl (by decide) rfl ?_
  refine z_aload_n X 1 dX3_rebale_6 rfl rfl ?_
  refine z_iload_n X 3 dX3_rebale_7 rfl rfl ?_
  refine z_callV X (n := 1) (As := [.int b2]) (rest := []) 0 rfl (CF_at (k := 0) rfl rfl rfl rfl rfl) rfl (p_findBale_o l G cy B ad cn u w x r hI b2 hb2) q_194 q_195 q_2 q_24 q_196 (by decide +kernel) ⟨Nat.le_of_ble_eq_true rfl, Nat.le_of_ble_eq_true rfl⟩ rfl rfl (Nat.le_of_ble_eq_true rfl) dX3_rebale_8 ⟨Nat.le_of_ble_eq_true rfl, Nat.le_of_ble_eq_true rfl⟩ (fun v ad' f' hp had => ?_)
  obtain ⟨rfl, rfl, rfl⟩ := hp
  refine z_st (st' := [.null]) rfl ?_
  refine z_astoreN X (lv' := [(4, .null), (3, .ref (ad (j + 100))), (0, .ref (ad 0)), (1, .int (nI j)), (2, .int b2)]) dX3_rebale_11 (by decide) rfl ?_
  refine z_aload_n X 1 dX3_rebale_13 rfl rfl ?_
  refine z_ifnull X dX3_rebale_14 ?_
  refine z_aloadN X 0 dX3_rebale_17 rfl ?_
  refine z_ifnullN X (tgt := 36) dX3_rebale_19 (by decide) ?_
  refine z_iconst X (v := -1) dX3_rebale_36 (by decide) ?_
  refine z_iret X (Nat.le_of_ble_eq_true rfl) (Nat.le_of_ble_eq_true rfl) ?_ dX3_rebale_37
  exact ⟨rfl, rfl, rfl⟩
set_option maxHeartbeats 4000000 in
set_option maxRecDepth 100000 in
theorem p_brought_p (l : Launch) (G : va_G) (cy : Nat → ClassId) (B : Nat) (ad : Nat → Nat) (cn : Nat → Nat) (u : Nat → Nat → Int32) (w : Nat → Nat → Int64) (x : Nat → Nat → UInt64) (r : Nat → Nat → Option Nat) (hI : CI ad cn r) (j : Nat) (hj : j < cn 6) (a1 a2 : Nat) (ha1 : a1 < cn 6) (ha2 : a2 < cn 6) (e1 : r (j + 100) 7 = some (ad (a1 + 100))) (e2 : r (j + 100) 8 = some (ad (a2 + 100))) (k pt : Int32) : Ct l G cy B yX3_brought cX3_brought 6 (some .long) ({ frames := 2, cells := 0, slots := 0, locals := 41 } : Room) ad (CF cy ad cn u w x r) [.ref (ad 0), .int (nI j), .int k, .int pt] (fun v ad' f' => v = some (.long (if okKind k ∧ okPart pt then (if pt = 0 then w (a1 + 200) k.toNatClampNeg else w (a2 + 200) k.toNatClampNeg) else -1)) ∧ ad = ad' ∧ CF cy ad cn u w x r = f') := by
  refine ct_of (by decide +kernel) (Nat.le_of_ble_eq_true rfl) ?_
  intro p e s m args below meth c X hnm
  have hI0 := hI
  obtain ⟨⟨hc3, hc4, hc6, hc9, hc12, hc14⟩, ⟨h30, h31, h32⟩, hr6, hr12, hr14⟩ := hI0
  refine z_lv (lv' := [(0, .ref (ad 0)), (1, .int (nI j)), (2, .int k), (3, .int pt)]) [0, 1, 2, 3] rfl ?_
  refine z_aload_n X 0 dX3_brought_0 rfl rfl ?_
  refine z_iload_n X 1 dX3_brought_1 rfl rfl ?_
  refine z_callV X (n := 1) (As := [.int (nI j)]) (rest := []) 0 rfl (CF_at (k := 0) rfl rfl rfl rfl rfl) rfl (p_findBale_i l G cy B ad cn u w x r hI j hj) q_194 q_195 q_2 q_24 q_196 (by decide +kernel) ⟨Nat.le_of_ble_eq_true rfl, Nat.le_of_ble_eq_true rfl⟩ rfl rfl (Nat.le_of_ble_eq_true rfl) dX3_brought_2 ⟨Nat.le_of_ble_eq_true rfl, Nat.le_of_ble_eq_true rfl⟩ (fun v ad' f' hp had => ?_)
  obtain ⟨rfl, rfl, rfl⟩ := hp
  refine z_st (st' := [.ref (ad (j + 100))]) rfl ?_
  refine z_astore X (lv' := [(4, .ref (ad (j + 100))), (0, .ref (ad 0)), (1, .int (nI j)), (2, .int k), (3, .int pt)]) dX3_brought_5 (by decide) rfl ?_
  refine z_aload X 0 dX3_brought_7 rfl ?_
  refine z_ifnull X dX3_brought_9 ?_
  refine z_iload_n X 3 dX3_brought_12 rfl rfl ?_
  refine z_callS X (n := 1) (As := [.int k]) (rest := []) (c_X3_isKind l G cy B ad (CF cy ad cn u w x r) k) q_138 q_139 q_24 q_140 (by decide +kernel) ⟨Nat.le_of_ble_eq_true rfl, Nat.le_of_ble_eq_true rfl⟩ rfl rfl (Nat.le_of_ble_eq_true rfl) dX3_brought_13 ⟨Nat.le_of_ble_eq_true rfl, Nat.le_of_ble_eq_true rfl⟩ (fun v ad' f' hp had => ?_)
  obtain ⟨rfl, rfl, rfl⟩ := hp
  refine z_st (st' := [.int (nI (if okKind k then 1 else 0))]) rfl ?_
  refine z_if_eqB X (tgt := 29) dX3_brought_16 (by decide) (fun c16 => ?_) (fun c16 => ?_)
  · refine z_ldc2 X dX3_brought_29 q_197 ?_
    refine z_lret X (Nat.le_of_ble_eq_true rfl) (Nat.le_of_ble_eq_true rfl) ?_ dX3_brought_32
    exact ⟨by rw [if_neg (fun h => c16 h.1)], rfl, rfl⟩
  · refine z_iload_n X 4 dX3_brought_19 rfl rfl ?_
    refine z_i2l X dX3_brought_20 ?_
    refine z_lconst X (v := 0) dX3_brought_21 rfl ?_
    refine z_lconst X (v := 1) dX3_brought_22 rfl ?_
    refine z_callS X (n := 3) (As := [.long pt.toInt64, .long 0, .long 1]) (rest := []) (c_X3_isWithin l G cy B ad (CF cy ad cn u w x r) pt.toInt64 0 1) q_142 q_143 q_24 q_144 (by decide +kernel) ⟨Nat.le_of_ble_eq_true rfl, Nat.le_of_ble_eq_true rfl⟩ rfl rfl (Nat.le_of_ble_eq_true rfl) dX3_brought_23 ⟨Nat.le_of_ble_eq_true rfl, Nat.le_of_ble_eq_true rfl⟩ (fun v ad' f' hp had => ?_)
    obtain ⟨rfl, rfl, rfl⟩ := hp
    refine z_st (st' := [.int (nI (if 0 ≤ pt.toInt64 ∧ pt.toInt64 ≤ 1 then 1 else 0))]) rfl ?_
    refine z_if_neB X (tgt := 33) dX3_brought_26 (by decide) (fun c26 => ?_) (fun c26 => ?_)
    · refine z_iload_n X 4 dX3_brought_33 rfl rfl ?_
      refine z_if_ne X (tgt := 45) dX3_brought_34 (by decide) (fun c34 => ?_) (fun c34 => ?_)
      · refine z_aload X 0 dX3_brought_45 rfl ?_
        refine z_getN X (v := va_rf (r (j + 100) 8)) (j + 100) 8 wa_X0 rfl rfl (CF_at (k := j + 100) rfl rfl rfl rfl (cAt_b (i := j) (by omega) (by omega))) (by decide) (List.mem_of_getElem? (i := 6) rfl) rfl rfl dX3_brought_47 ?_
        refine z_top (v' := .ref (ad (a2 + 100))) (by rw [e2]; rfl) ?_
        refine z_astore X (lv' := [(5, .ref (ad (a2 + 100))), (4, .ref (ad (j + 100))), (0, .ref (ad 0)), (1, .int (nI j)), (2, .int k), (3, .int pt)]) dX3_brought_50 (by decide) rfl ?_
        refine z_aload X 0 dX3_brought_52 rfl ?_
        refine z_ifnonnull X (tgt := 61) dX3_brought_54 (by decide) ?_
        refine z_aload X 0 dX3_brought_61 rfl ?_
        refine z_iload_n X 4 dX3_brought_63 rfl rfl ?_
        refine z_callV X (n := 1) (As := [.int k]) (rest := []) (a2 + 100) rfl (CF_at (k := a2 + 100) rfl rfl rfl rfl (cAt_b (i := a2) (by omega) (by omega))) rfl (b_gramsOf l G cy B ad (CF cy ad cn u w x r) (a2 + 100) (a2 + 200) (x (a2 + 100) 1) (u (a2 + 100) 2) (u (a2 + 100) 3) (u (a2 + 100) 4) (u (a2 + 100) 5) (u (a2 + 100) 6) (r (a2 + 100) 7) (r (a2 + 100) 8) (w (a2 + 200)) (CF_at (k := a2 + 100) rfl rfl rfl rfl (cAt_b (i := a2) (by omega) (by omega))) (CF_at (k := a2 + 200) rfl rfl rfl rfl (cAt_g (i := a2) (by omega) (by omega))) k) q_198 q_199 q_200 q_30 q_201 (by decide +kernel) ⟨Nat.le_of_ble_eq_true rfl, Nat.le_of_ble_eq_true rfl⟩ rfl rfl (Nat.le_of_ble_eq_true rfl) dX3_brought_64 ⟨Nat.le_of_ble_eq_true rfl, Nat.le_of_ble_eq_true rfl⟩ (fun v ad' f' hp had => ?_)
        obtain ⟨rfl, rfl, rfl⟩ := hp
        refine z_st (st' := [.long (if okKind k then w (a2 + 200) k.toNatClampNeg else 0)]) rfl ?_
        refine z_lret X (Nat.le_of_ble_eq_true rfl) (Nat.le_of_ble_eq_true rfl) ?_ dX3_brought_67
        exact ⟨by rw [if_pos c16, if_pos ⟨c16, c26⟩, if_neg c34], rfl, rfl⟩
      · refine z_aload X 0 dX3_brought_37 rfl ?_
        refine z_getN X (v := va_rf (r (j + 100) 7)) (j + 100) 7 wa_X0 rfl rfl (CF_at (k := j + 100) rfl rfl rfl rfl (cAt_b (i := j) (by omega) (by omega))) (by decide) (List.mem_of_getElem? (i := 5) rfl) rfl rfl dX3_brought_39 ?_
        refine z_top (v' := .ref (ad (a1 + 100))) (by rw [e1]; rfl) ?_
        refine z_goto X (tgt := 50) dX3_brought_42 (by decide) ?_
        refine z_astore X (lv' := [(5, .ref (ad (a1 + 100))), (4, .ref (ad (j + 100))), (0, .ref (ad 0)), (1, .int (nI j)), (2, .int k), (3, .int pt)]) dX3_brought_50 (by decide) rfl ?_
        refine z_aload X 0 dX3_brought_52 rfl ?_
        refine z_ifnonnull X (tgt := 61) dX3_brought_54 (by decide) ?_
        refine z_aload X 0 dX3_brought_61 rfl ?_
        refine z_iload_n X 4 dX3_brought_63 rfl rfl ?_
        refine z_callV X (n := 1) (As := [.int k]) (rest := []) (a1 + 100) rfl (CF_at (k := a1 + 100) rfl rfl rfl rfl (cAt_b (i := a1) (by omega) (by omega))) rfl (b_gramsOf l G cy B ad (CF cy ad cn u w x r) (a1 + 100) (a1 + 200) (x (a1 + 100) 1) (u (a1 + 100) 2) (u (a1 + 100) 3) (u (a1 + 100) 4) (u (a1 + 100) 5) (u (a1 + 100) 6) (r (a1 + 100) 7) (r (a1 + 100) 8) (w (a1 + 200)) (CF_at (k := a1 + 100) rfl rfl rfl rfl (cAt_b (i := a1) (by omega) (by omega))) (CF_at (k := a1 + 200) rfl rfl rfl rfl (cAt_g (i := a1) (by omega) (by omega))) k) q_198 q_199 q_200 q_30 q_201 (by decide +kernel) ⟨Nat.le_of_ble_eq_true rfl, Nat.le_of_ble_eq_true rfl⟩ rfl rfl (Nat.le_of_ble_eq_true rfl) dX3_brought_64 ⟨Nat.le_of_ble_eq_true rfl, Nat.le_of_ble_eq_true rfl⟩ (fun v ad' f' hp had => ?_)
        obtain ⟨rfl, rfl, rfl⟩ := hp
        refine z_st (st' := [.long (if okKind k then w (a1 + 200) k.toNatClampNeg else 0)]) rfl ?_
        refine z_lret X (Nat.le_of_ble_eq_true rfl) (Nat.le_of_ble_eq_true rfl) ?_ dX3_brought_67
        exact ⟨by rw [if_pos c16, if_pos ⟨c16, c26⟩, if_pos c34], rfl, rfl⟩
    · refine z_ldc2 X dX3_brought_29 q_197 ?_
      refine z_lret X (Nat.le_of_ble_eq_true rfl) (Nat.le_of_ble_eq_true rfl) ?_ dX3_brought_32
      exact ⟨by rw [if_neg (fun h => c26 h.2)], rfl, rfl⟩
set_option maxHeartbeats 4000000 in
set_option maxRecDepth 100000 in
theorem p_brought_n (l : Launch) (G : va_G) (cy : Nat → ClassId) (B : Nat) (ad : Nat → Nat) (cn : Nat → Nat) (u : Nat → Nat → Int32) (w : Nat → Nat → Int64) (x : Nat → Nat → UInt64) (r : Nat → Nat → Option Nat) (hI : CI ad cn r) (j : Nat) (hj : j < cn 6) (e1 : r (j + 100) 7 = none) (e2 : r (j + 100) 8 = none) (k pt : Int32) : Ct l G cy B yX3_brought cX3_brought 6 (some .long) ({ frames := 1, cells := 0, slots := 0, locals := 25 } : Room) ad (CF cy ad cn u w x r) [.ref (ad 0), .int (nI j), .int k, .int pt] (fun v ad' f' => v = some (.long (if okKind k ∧ okPart pt then 0 else -1)) ∧ ad = ad' ∧ CF cy ad cn u w x r = f') := by
  refine ct_of (by decide +kernel) (Nat.le_of_ble_eq_true rfl) ?_
  intro p e s m args below meth c X hnm
  have hI0 := hI
  obtain ⟨⟨hc3, hc4, hc6, hc9, hc12, hc14⟩, ⟨h30, h31, h32⟩, hr6, hr12, hr14⟩ := hI0
  refine z_lv (lv' := [(0, .ref (ad 0)), (1, .int (nI j)), (2, .int k), (3, .int pt)]) [0, 1, 2, 3] rfl ?_
  refine z_aload_n X 0 dX3_brought_0 rfl rfl ?_
  refine z_iload_n X 1 dX3_brought_1 rfl rfl ?_
  refine z_callV X (n := 1) (As := [.int (nI j)]) (rest := []) 0 rfl (CF_at (k := 0) rfl rfl rfl rfl rfl) rfl (p_findBale_i l G cy B ad cn u w x r hI j hj) q_194 q_195 q_2 q_24 q_196 (by decide +kernel) ⟨Nat.le_of_ble_eq_true rfl, Nat.le_of_ble_eq_true rfl⟩ rfl rfl (Nat.le_of_ble_eq_true rfl) dX3_brought_2 ⟨Nat.le_of_ble_eq_true rfl, Nat.le_of_ble_eq_true rfl⟩ (fun v ad' f' hp had => ?_)
  obtain ⟨rfl, rfl, rfl⟩ := hp
  refine z_st (st' := [.ref (ad (j + 100))]) rfl ?_
  refine z_astore X (lv' := [(4, .ref (ad (j + 100))), (0, .ref (ad 0)), (1, .int (nI j)), (2, .int k), (3, .int pt)]) dX3_brought_5 (by decide) rfl ?_
  refine z_aload X 0 dX3_brought_7 rfl ?_
  refine z_ifnull X dX3_brought_9 ?_
  refine z_iload_n X 3 dX3_brought_12 rfl rfl ?_
  refine z_callS X (n := 1) (As := [.int k]) (rest := []) (c_X3_isKind l G cy B ad (CF cy ad cn u w x r) k) q_138 q_139 q_24 q_140 (by decide +kernel) ⟨Nat.le_of_ble_eq_true rfl, Nat.le_of_ble_eq_true rfl⟩ rfl rfl (Nat.le_of_ble_eq_true rfl) dX3_brought_13 ⟨Nat.le_of_ble_eq_true rfl, Nat.le_of_ble_eq_true rfl⟩ (fun v ad' f' hp had => ?_)
  obtain ⟨rfl, rfl, rfl⟩ := hp
  refine z_st (st' := [.int (nI (if okKind k then 1 else 0))]) rfl ?_
  refine z_if_eqB X (tgt := 29) dX3_brought_16 (by decide) (fun c16 => ?_) (fun c16 => ?_)
  · refine z_ldc2 X dX3_brought_29 q_197 ?_
    refine z_lret X (Nat.le_of_ble_eq_true rfl) (Nat.le_of_ble_eq_true rfl) ?_ dX3_brought_32
    exact ⟨by rw [if_neg (fun h => c16 h.1)], rfl, rfl⟩
  · refine z_iload_n X 4 dX3_brought_19 rfl rfl ?_
    refine z_i2l X dX3_brought_20 ?_
    refine z_lconst X (v := 0) dX3_brought_21 rfl ?_
    refine z_lconst X (v := 1) dX3_brought_22 rfl ?_
    refine z_callS X (n := 3) (As := [.long pt.toInt64, .long 0, .long 1]) (rest := []) (c_X3_isWithin l G cy B ad (CF cy ad cn u w x r) pt.toInt64 0 1) q_142 q_143 q_24 q_144 (by decide +kernel) ⟨Nat.le_of_ble_eq_true rfl, Nat.le_of_ble_eq_true rfl⟩ rfl rfl (Nat.le_of_ble_eq_true rfl) dX3_brought_23 ⟨Nat.le_of_ble_eq_true rfl, Nat.le_of_ble_eq_true rfl⟩ (fun v ad' f' hp had => ?_)
    obtain ⟨rfl, rfl, rfl⟩ := hp
    refine z_st (st' := [.int (nI (if 0 ≤ pt.toInt64 ∧ pt.toInt64 ≤ 1 then 1 else 0))]) rfl ?_
    refine z_if_neB X (tgt := 33) dX3_brought_26 (by decide) (fun c26 => ?_) (fun c26 => ?_)
    · refine z_iload_n X 4 dX3_brought_33 rfl rfl ?_
      refine z_if_ne X (tgt := 45) dX3_brought_34 (by decide) (fun c34 => ?_) (fun c34 => ?_)
      · refine z_aload X 0 dX3_brought_45 rfl ?_
        refine z_getN X (v := va_rf (r (j + 100) 8)) (j + 100) 8 wa_X0 rfl rfl (CF_at (k := j + 100) rfl rfl rfl rfl (cAt_b (i := j) (by omega) (by omega))) (by decide) (List.mem_of_getElem? (i := 6) rfl) rfl rfl dX3_brought_47 ?_
        refine z_top (v' := .null) (by rw [e2]; rfl) ?_
        refine z_astoreN X (lv' := [(5, .null), (4, .ref (ad (j + 100))), (0, .ref (ad 0)), (1, .int (nI j)), (2, .int k), (3, .int pt)]) dX3_brought_50 (by decide) rfl ?_
        refine z_aloadN X 0 dX3_brought_52 rfl ?_
        refine z_ifnonnullN X dX3_brought_54 ?_
        refine z_lconst X (v := 0) dX3_brought_57 rfl ?_
        refine z_goto X (tgt := 67) dX3_brought_58 (by decide) ?_
        refine z_lret X (Nat.le_of_ble_eq_true rfl) (Nat.le_of_ble_eq_true rfl) ?_ dX3_brought_67
        exact ⟨by rw [if_pos ⟨c16, c26⟩], rfl, rfl⟩
      · refine z_aload X 0 dX3_brought_37 rfl ?_
        refine z_getN X (v := va_rf (r (j + 100) 7)) (j + 100) 7 wa_X0 rfl rfl (CF_at (k := j + 100) rfl rfl rfl rfl (cAt_b (i := j) (by omega) (by omega))) (by decide) (List.mem_of_getElem? (i := 5) rfl) rfl rfl dX3_brought_39 ?_
        refine z_top (v' := .null) (by rw [e1]; rfl) ?_
        refine z_goto X (tgt := 50) dX3_brought_42 (by decide) ?_
        refine z_astoreN X (lv' := [(5, .null), (4, .ref (ad (j + 100))), (0, .ref (ad 0)), (1, .int (nI j)), (2, .int k), (3, .int pt)]) dX3_brought_50 (by decide) rfl ?_
        refine z_aloadN X 0 dX3_brought_52 rfl ?_
        refine z_ifnonnullN X dX3_brought_54 ?_
        refine z_lconst X (v := 0) dX3_brought_57 rfl ?_
        refine z_goto X (tgt := 67) dX3_brought_58 (by decide) ?_
        refine z_lret X (Nat.le_of_ble_eq_true rfl) (Nat.le_of_ble_eq_true rfl) ?_ dX3_brought_67
        exact ⟨by rw [if_pos ⟨c16, c26⟩], rfl, rfl⟩
    · refine z_ldc2 X dX3_brought_29 q_197 ?_
      refine z_lret X (Nat.le_of_ble_eq_true rfl) (Nat.le_of_ble_eq_true rfl) ?_ dX3_brought_32
      exact ⟨by rw [if_neg (fun h => c26 h.2)], rfl, rfl⟩
set_option maxHeartbeats 4000000 in
set_option maxRecDepth 100000 in
theorem p_brought_o (l : Launch) (G : va_G) (cy : Nat → ClassId) (B : Nat) (ad : Nat → Nat) (cn : Nat → Nat) (u : Nat → Nat → Int32) (w : Nat → Nat → Int64) (x : Nat → Nat → UInt64) (r : Nat → Nat → Option Nat) (hI : CI ad cn r) (b : Int32) (hb : ¬ (¬ b < 0 ∧ ¬ nI (cn 6) ≤ b)) (k pt : Int32) : Ct l G cy B yX3_brought cX3_brought 6 (some .long) ({ frames := 1, cells := 0, slots := 0, locals := 21 } : Room) ad (CF cy ad cn u w x r) [.ref (ad 0), .int b, .int k, .int pt] (fun v ad' f' => v = some (.long (-1)) ∧ ad = ad' ∧ CF cy ad cn u w x r = f') := by
  refine ct_of (by decide +kernel) (Nat.le_of_ble_eq_true rfl) ?_
  intro p e s m args below meth c X hnm
  have hI0 := hI
  obtain ⟨⟨hc3, hc4, hc6, hc9, hc12, hc14⟩, ⟨h30, h31, h32⟩, hr6, hr12, hr14⟩ := hI0
  refine z_lv (lv' := [(0, .ref (ad 0)), (1, .int b), (2, .int k), (3, .int pt)]) [0, 1, 2, 3] rfl ?_
  refine z_aload_n X 0 dX3_brought_0 rfl rfl ?_
  refine z_iload_n X 1 dX3_brought_1 rfl rfl ?_
  refine z_callV X (n := 1) (As := [.int b]) (rest := []) 0 rfl (CF_at (k := 0) rfl rfl rfl rfl rfl) rfl (p_findBale_o l G cy B ad cn u w x r hI b hb) q_194 q_195 q_2 q_24 q_196 (by decide +kernel) ⟨Nat.le_of_ble_eq_true rfl, Nat.le_of_ble_eq_true rfl⟩ rfl rfl (Nat.le_of_ble_eq_true rfl) dX3_brought_2 ⟨Nat.le_of_ble_eq_true rfl, Nat.le_of_ble_eq_true rfl⟩ (fun v ad' f' hp had => ?_)
  obtain ⟨rfl, rfl, rfl⟩ := hp
  refine z_st (st' := [.null]) rfl ?_
  refine z_astoreN X (lv' := [(4, .null), (0, .ref (ad 0)), (1, .int b), (2, .int k), (3, .int pt)]) dX3_brought_5 (by decide) rfl ?_
  refine z_aloadN X 0 dX3_brought_7 rfl ?_
  refine z_ifnullN X (tgt := 29) dX3_brought_9 (by decide) ?_
  refine z_ldc2 X dX3_brought_29 q_197 ?_
  refine z_lret X (Nat.le_of_ble_eq_true rfl) (Nat.le_of_ble_eq_true rfl) ?_ dX3_brought_32
  exact ⟨rfl, rfl, rfl⟩
