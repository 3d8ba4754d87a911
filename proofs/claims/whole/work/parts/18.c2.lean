abbrev okFeedC (cn : Nat → Nat) (w : Nat → Nat → Int64) (s : Int64) (k : Int32) (g : Int64) : Prop := cn 3 < 200 ∧ okKind k ∧ (0 ≤ s ∧ s ≤ 8000000000) ∧ (1 ≤ g ∧ g ≤ 1000000) ∧ ¬ (0 < cn 3 ∧ s < w 1 (cn 3 - 1))
abbrev okRowC (cn : Nat → Nat) (x : Nat → Nat → UInt64) (d h : UInt64) : Prop := cn 9 < 6 ∧ (dGe d 13855605728582041600 = true ∧ dLe d 4641240890982006784 = true) ∧ (dGe h 0 = true ∧ dLe h 4621819117588971520 = true) ∧ ¬ (0 < cn 9 ∧ dLe d (x 8 (cn 9 - 1)) = true)
def putC (cn : Nat → Nat) (u : Nat → Nat → Int32) (w : Nat → Nat → Int64) (x : Nat → Nat → UInt64) (j st : Nat) : Nat :=
  if ¬ u (j + 100) 4 = 0 then 2 else if ¬ nI (cntN (fun b => decide (onC u (nI st) b)) (cn 6)) < u (st + 300) 1 then 3 else if dGe (x (j + 100) 1) 4633641066610819072 = true then 4 else if anyB (fun b => decide (othC u w (nI st) (mainL (w (j + 200)) 3) b)) (cn 6) = true then 5 else if ¬ sumL (fun b => if nearC u st b then sumL (w (b + 200)) 4 else 0) (cn 6) + sumL (w (j + 200)) 4 ≤ 1000000 then 6 else 0
abbrev firstC (u : Nat → Nat → Int32) (w : Nat → Nat → Int64) (k : Int32) (b : Nat) : Prop := u (b + 100) 4 = nI 1 ∧ nI (mainL (w (b + 200)) 3) = k
abbrev okLoadC (u : Nat → Nat → Int32) (w : Nat → Nat → Int64) (li ct j : Nat) : Prop := u (j + 100) 4 = nI 2 ∧ u (j + 100) 6 = 0 ∧ (ct < 8 ∧ w (li + 400) 2 + sumL (w (j + 200)) 4 ≤ w (li + 400) 0 ∧ w (li + 400) 3 + sumL (w (j + 200)) 4 * lN (ct + 1) ≤ w (li + 400) 1)
theorem CF_lf {cy : Nat → ClassId} {ad cn : Nat → Nat} {u : Nat → Nat → Int32} {w : Nat → Nat → Int64} {x : Nat → Nat → UInt64} {r : Nat → Nat → Option Nat} {i : Nat} {uj : Nat → Int32} (hi : i < cn 32) (hp : cn 32 ≤ 3) (hu : u (i + 400) = uj) : CF cy ad cn u w x r (i + 400) = some (.inr (2, lObj uj (w (i + 400)))) := by
  subst hu
  exact CF_l hi hp
set_option maxHeartbeats 4000000 in
set_option maxRecDepth 100000 in
theorem p_feed (l : Launch) (G : va_G) (cy : Nat → ClassId) (B : Nat) (ad : Nat → Nat) (cn : Nat → Nat) (u : Nat → Nat → Int32) (w : Nat → Nat → Int64) (x : Nat → Nat → UInt64) (r : Nat → Nat → Option Nat) (hI : CI ad cn r) (sc : Int64) (k : Int32) (g : Int64) : Ct l G cy B yX3_feed cX3_feed 6 (some .boolean) ({ frames := 1, cells := 0, slots := 0, locals := 25 } : Room) ad (CF cy ad cn u w x r) [.ref (ad 0), .long sc, .int k, .long g] (fun v ad' f' => v = some (.int (nI (if okFeedC cn w sc k g then 1 else 0))) ∧ ad = ad' ∧ (if okFeedC cn w sc k g then CF cy ad (va_up cn 3 (cn 3 + 1)) (va_up u 2 (upd (u 2) (cn 3) k)) (va_up (va_up w 1 (vp_updL (w 1) (cn 3) sc)) 3 (vp_updL (w 3) (cn 3) g)) x r else CF cy ad cn u w x r) = f') := by
  refine ct_of (by decide +kernel) (Nat.le_of_ble_eq_true rfl) ?_
  intro p e s m args below meth c X hnm
  have hI0 := hI
  obtain ⟨⟨hc3, hc4, hc6, hc9, hc12, hc14⟩, ⟨h30, h31, h32⟩, hr6, hr12, hr14⟩ := hI0
  refine z_lv (lv' := [(0, .ref (ad 0)), (1, .long sc), (3, .int k), (4, .long g)]) [0, 1, 2, 3] rfl ?_
  refine z_aload_n X 0 dX3_feed_0 rfl rfl ?_
  refine z_get X (v := .int (nI (cn 3))) 0 3 wa_X3 rfl rfl (CF_at (k := 0) rfl rfl rfl rfl rfl) (by decide) q_88 rfl rfl dX3_feed_1 ?_
  refine z_sipush X (v := nI 200) dX3_feed_4 (by decide) ?_
  refine z_icmp_geN X (tgt := 17) (by omega) (by omega) dX3_feed_7 (by decide) (fun c7 => ?_) (fun c7 => ?_)
  · refine z_iconst X (v := nI 0) dX3_feed_17 (by decide) ?_
    refine z_zret rfl X (Nat.le_of_ble_eq_true rfl) (Nat.le_of_ble_eq_true rfl) ?_ dX3_feed_18
    have h9 : ¬ okFeedC cn w sc k g := fun h9 => absurd h9.1 (by omega)
    exact ⟨by rw [if_neg h9], rfl, by rw [if_neg h9]⟩
  · refine z_iload_n X 2 dX3_feed_10 rfl rfl ?_
    refine z_callS X (n := 1) (As := [.int k]) (rest := []) (c_X3_isKind l G cy B ad (CF cy ad cn u w x r) k) q_138 q_139 q_24 q_140 (by decide +kernel) ⟨Nat.le_of_ble_eq_true rfl, Nat.le_of_ble_eq_true rfl⟩ rfl rfl (Nat.le_of_ble_eq_true rfl) dX3_feed_11 ⟨Nat.le_of_ble_eq_true rfl, Nat.le_of_ble_eq_true rfl⟩ (fun v ad' f' hp had => ?_)
    obtain ⟨rfl, rfl, rfl⟩ := hp
    refine z_st (st' := [.int (nI (if okKind k then 1 else 0))]) rfl ?_
    refine z_if_neB X (tgt := 19) dX3_feed_14 (by decide) (fun c14 => ?_) (fun c14 => ?_)
    · refine z_lload_n X 1 dX3_feed_19 rfl rfl ?_
      refine z_lconst X (v := 0) dX3_feed_20 rfl ?_
      refine z_ldc2 X dX3_feed_21 q_141 ?_
      refine z_callS X (n := 3) (As := [.long sc, .long 0, .long 8000000000]) (rest := []) (c_X3_isWithin l G cy B ad (CF cy ad cn u w x r) sc 0 8000000000) q_142 q_143 q_24 q_144 (by decide +kernel) ⟨Nat.le_of_ble_eq_true rfl, Nat.le_of_ble_eq_true rfl⟩ rfl rfl (Nat.le_of_ble_eq_true rfl) dX3_feed_24 ⟨Nat.le_of_ble_eq_true rfl, Nat.le_of_ble_eq_true rfl⟩ (fun v ad' f' hp had => ?_)
      obtain ⟨rfl, rfl, rfl⟩ := hp
      refine z_st (st' := [.int (nI (if 0 ≤ sc ∧ sc ≤ 8000000000 then 1 else 0))]) rfl ?_
      refine z_if_eqB X (tgt := 42) dX3_feed_27 (by decide) (fun c27 => ?_) (fun c27 => ?_)
      · refine z_iconst X (v := nI 0) dX3_feed_42 (by decide) ?_
        refine z_zret rfl X (Nat.le_of_ble_eq_true rfl) (Nat.le_of_ble_eq_true rfl) ?_ dX3_feed_43
        have h9 : ¬ okFeedC cn w sc k g := fun h9 => c27 h9.2.2.1
        exact ⟨by rw [if_neg h9], rfl, by rw [if_neg h9]⟩
      · refine z_lload X 3 dX3_feed_30 rfl ?_
        refine z_lconst X (v := 1) dX3_feed_32 rfl ?_
        refine z_ldc2 X dX3_feed_33 q_145 ?_
        refine z_callS X (n := 3) (As := [.long g, .long 1, .long 1000000]) (rest := []) (c_X3_isWithin l G cy B ad (CF cy ad cn u w x r) g 1 1000000) q_142 q_143 q_24 q_144 (by decide +kernel) ⟨Nat.le_of_ble_eq_true rfl, Nat.le_of_ble_eq_true rfl⟩ rfl rfl (Nat.le_of_ble_eq_true rfl) dX3_feed_36 ⟨Nat.le_of_ble_eq_true rfl, Nat.le_of_ble_eq_true rfl⟩ (fun v ad' f' hp had => ?_)
        obtain ⟨rfl, rfl, rfl⟩ := hp
        refine z_st (st' := [.int (nI (if 1 ≤ g ∧ g ≤ 1000000 then 1 else 0))]) rfl ?_
        refine z_if_neB X (tgt := 44) dX3_feed_39 (by decide) (fun c39 => ?_) (fun c39 => ?_)
        · refine z_aload_n X 0 dX3_feed_44 rfl rfl ?_
          refine z_get X (v := .int (nI (cn 3))) 0 3 wa_X3 rfl rfl (CF_at (k := 0) rfl rfl rfl rfl rfl) (by decide) q_88 rfl rfl dX3_feed_45 ?_
          refine z_if_leN X (tgt := 69) (by omega) dX3_feed_48 (by decide) (fun c48 => ?_) (fun c48 => ?_)
          · refine z_aload_n X 0 dX3_feed_69 rfl rfl ?_
            refine z_get X (v := .ref (ad 1)) 0 0 wa_X3 rfl rfl (CF_at (k := 0) rfl rfl rfl rfl rfl) (by decide) q_85 rfl rfl dX3_feed_70 ?_
            refine z_aload_n X 0 dX3_feed_73 rfl rfl ?_
            refine z_get X (v := .int (nI (cn 3))) 0 3 wa_X3 rfl rfl (CF_at (k := 0) rfl rfl rfl rfl rfl) (by decide) q_88 rfl rfl dX3_feed_74 ?_
            refine z_lload_n X 1 dX3_feed_77 rfl rfl ?_
            refine z_lastN X (n := 200) (g := w 1) 1 rfl (CF_at (k := 1) rfl rfl rfl rfl rfl) (by omega) (by decide) dX3_feed_78 ?_
            refine z_f (CFs_w (k := 1) (vp_updL (w 1) (cn 3) sc) rfl rfl rfl rfl) ?_
            refine z_aload_n X 0 dX3_feed_79 rfl rfl ?_
            refine z_get X (v := .ref (ad 2)) 0 1 wa_X3 rfl rfl (CF_at (k := 0) rfl rfl rfl rfl rfl) (by decide) q_86 rfl rfl dX3_feed_80 ?_
            refine z_aload_n X 0 dX3_feed_83 rfl rfl ?_
            refine z_get X (v := .int (nI (cn 3))) 0 3 wa_X3 rfl rfl (CF_at (k := 0) rfl rfl rfl rfl rfl) (by decide) q_88 rfl rfl dX3_feed_84 ?_
            refine z_iload_n X 2 dX3_feed_87 rfl rfl ?_
            refine z_iastN X (n := 200) (g := u 2) 2 rfl (CF_at (k := 2) rfl rfl rfl rfl rfl) (by omega) (by decide) dX3_feed_88 ?_
            refine z_f (CFs_u (k := 2) (upd (u 2) (cn 3) k) rfl rfl rfl rfl) ?_
            refine z_aload_n X 0 dX3_feed_89 rfl rfl ?_
            refine z_get X (v := .ref (ad 3)) 0 2 wa_X3 rfl rfl (CF_at (k := 0) rfl rfl rfl rfl rfl) (by decide) q_87 rfl rfl dX3_feed_90 ?_
            refine z_aload_n X 0 dX3_feed_93 rfl rfl ?_
            refine z_get X (v := .int (nI (cn 3))) 0 3 wa_X3 rfl rfl (CF_at (k := 0) rfl rfl rfl rfl rfl) (by decide) q_88 rfl rfl dX3_feed_94 ?_
            refine z_lload X 3 dX3_feed_97 rfl ?_
            refine z_lastN X (n := 200) (g := w 3) 3 rfl (CF_at (k := 3) rfl rfl rfl rfl rfl) (by omega) (by decide) dX3_feed_99 ?_
            refine z_f (CFs_w (k := 3) (vp_updL (w 3) (cn 3) g) rfl rfl rfl rfl) ?_
            refine z_aload_n X 0 dX3_feed_100 rfl rfl ?_
            refine z_dup X dX3_feed_101 rfl ?_
            refine z_get X (v := .int (nI (cn 3))) 0 3 wa_X3 rfl rfl (CF_at (k := 0) rfl rfl rfl rfl rfl) (by decide) q_88 rfl rfl dX3_feed_102 ?_
            refine z_iconst X (v := nI 1) dX3_feed_105 (by decide) ?_
            refine z_iaddN X dX3_feed_106 ?_
            refine z_put X (ty := .int) 0 3 wa_X3 tyX3 tyX3_ok nmX3 rfl rfl (CF_at (k := 0) rfl rfl rfl rfl rfl) (by decide) q_88 rfl rfl (by decide +kernel) rfl rfl (Nat.le_of_ble_eq_true rfl) dX3_feed_107 ?_
            refine z_f (CF_c (cn' := va_up cn 3 ((cn 3) + 1)) 0 (Or.inl rfl) rfl rfl rfl rfl (fun _ => rfl) (fun h => absurd h (by decide))) ?_
            refine z_iconst X (v := nI 1) dX3_feed_110 (by decide) ?_
            refine z_zret rfl X (Nat.le_of_ble_eq_true rfl) (Nat.le_of_ble_eq_true rfl) ?_ dX3_feed_111
            have h9 : okFeedC cn w sc k g := ⟨c7, c14, c27, c39, fun h => absurd h.1 (by omega)⟩
            exact ⟨by rw [if_pos h9], rfl, by rw [if_pos h9]⟩
          · refine z_lload_n X 1 dX3_feed_51 rfl rfl ?_
            refine z_aload_n X 0 dX3_feed_52 rfl rfl ?_
            refine z_get X (v := .ref (ad 1)) 0 0 wa_X3 rfl rfl (CF_at (k := 0) rfl rfl rfl rfl rfl) (by decide) q_85 rfl rfl dX3_feed_53 ?_
            refine z_aload_n X 0 dX3_feed_56 rfl rfl ?_
            refine z_get X (v := .int (nI (cn 3))) 0 3 wa_X3 rfl rfl (CF_at (k := 0) rfl rfl rfl rfl rfl) (by decide) q_88 rfl rfl dX3_feed_57 ?_
            refine z_iconst X (v := nI 1) dX3_feed_60 (by decide) ?_
            refine z_isubN X (by omega) dX3_feed_61 ?_
            refine z_laldN X (n := 200) (g := w 1) 1 rfl (CF_at (k := 1) rfl rfl rfl rfl rfl) (by omega) (by decide) dX3_feed_62 ?_
            refine z_lcmp_ge X (tgt := 69) dX3_feed_63 dX3_feed_64 (by decide) (fun c63 => ?_) (fun c63 => ?_)
            · refine z_aload_n X 0 dX3_feed_69 rfl rfl ?_
              refine z_get X (v := .ref (ad 1)) 0 0 wa_X3 rfl rfl (CF_at (k := 0) rfl rfl rfl rfl rfl) (by decide) q_85 rfl rfl dX3_feed_70 ?_
              refine z_aload_n X 0 dX3_feed_73 rfl rfl ?_
              refine z_get X (v := .int (nI (cn 3))) 0 3 wa_X3 rfl rfl (CF_at (k := 0) rfl rfl rfl rfl rfl) (by decide) q_88 rfl rfl dX3_feed_74 ?_
              refine z_lload_n X 1 dX3_feed_77 rfl rfl ?_
              refine z_lastN X (n := 200) (g := w 1) 1 rfl (CF_at (k := 1) rfl rfl rfl rfl rfl) (by omega) (by decide) dX3_feed_78 ?_
              refine z_f (CFs_w (k := 1) (vp_updL (w 1) (cn 3) sc) rfl rfl rfl rfl) ?_
              refine z_aload_n X 0 dX3_feed_79 rfl rfl ?_
              refine z_get X (v := .ref (ad 2)) 0 1 wa_X3 rfl rfl (CF_at (k := 0) rfl rfl rfl rfl rfl) (by decide) q_86 rfl rfl dX3_feed_80 ?_
              refine z_aload_n X 0 dX3_feed_83 rfl rfl ?_
              refine z_get X (v := .int (nI (cn 3))) 0 3 wa_X3 rfl rfl (CF_at (k := 0) rfl rfl rfl rfl rfl) (by decide) q_88 rfl rfl dX3_feed_84 ?_
              refine z_iload_n X 2 dX3_feed_87 rfl rfl ?_
              refine z_iastN X (n := 200) (g := u 2) 2 rfl (CF_at (k := 2) rfl rfl rfl rfl rfl) (by omega) (by decide) dX3_feed_88 ?_
              refine z_f (CFs_u (k := 2) (upd (u 2) (cn 3) k) rfl rfl rfl rfl) ?_
              refine z_aload_n X 0 dX3_feed_89 rfl rfl ?_
              refine z_get X (v := .ref (ad 3)) 0 2 wa_X3 rfl rfl (CF_at (k := 0) rfl rfl rfl rfl rfl) (by decide) q_87 rfl rfl dX3_feed_90 ?_
              refine z_aload_n X 0 dX3_feed_93 rfl rfl ?_
              refine z_get X (v := .int (nI (cn 3))) 0 3 wa_X3 rfl rfl (CF_at (k := 0) rfl rfl rfl rfl rfl) (by decide) q_88 rfl rfl dX3_feed_94 ?_
              refine z_lload X 3 dX3_feed_97 rfl ?_
              refine z_lastN X (n := 200) (g := w 3) 3 rfl (CF_at (k := 3) rfl rfl rfl rfl rfl) (by omega) (by decide) dX3_feed_99 ?_
              refine z_f (CFs_w (k := 3) (vp_updL (w 3) (cn 3) g) rfl rfl rfl rfl) ?_
              refine z_aload_n X 0 dX3_feed_100 rfl rfl ?_
              refine z_dup X dX3_feed_101 rfl ?_
              refine z_get X (v := .int (nI (cn 3))) 0 3 wa_X3 rfl rfl (CF_at (k := 0) rfl rfl rfl rfl rfl) (by decide) q_88 rfl rfl dX3_feed_102 ?_
              refine z_iconst X (v := nI 1) dX3_feed_105 (by decide) ?_
              refine z_iaddN X dX3_feed_106 ?_
              refine z_put X (ty := .int) 0 3 wa_X3 tyX3 tyX3_ok nmX3 rfl rfl (CF_at (k := 0) rfl rfl rfl rfl rfl) (by decide) q_88 rfl rfl (by decide +kernel) rfl rfl (Nat.le_of_ble_eq_true rfl) dX3_feed_107 ?_
              refine z_f (CF_c (cn' := va_up cn 3 ((cn 3) + 1)) 0 (Or.inl rfl) rfl rfl rfl rfl (fun _ => rfl) (fun h => absurd h (by decide))) ?_
              refine z_iconst X (v := nI 1) dX3_feed_110 (by decide) ?_
              refine z_zret rfl X (Nat.le_of_ble_eq_true rfl) (Nat.le_of_ble_eq_true rfl) ?_ dX3_feed_111
              have h9 : okFeedC cn w sc k g := ⟨c7, c14, c27, c39, fun h => absurd h.2 (Int64.not_lt.mpr c63)⟩
              exact ⟨by rw [if_pos h9], rfl, by rw [if_pos h9]⟩
            · refine z_iconst X (v := nI 0) dX3_feed_67 (by decide) ?_
              refine z_zret rfl X (Nat.le_of_ble_eq_true rfl) (Nat.le_of_ble_eq_true rfl) ?_ dX3_feed_68
              have h9 : ¬ okFeedC cn w sc k g := fun h9 => h9.2.2.2.2 ⟨by omega, Int64.not_le.mp c63⟩
              exact ⟨by rw [if_neg h9], rfl, by rw [if_neg h9]⟩
        · refine z_iconst X (v := nI 0) dX3_feed_42 (by decide) ?_
          refine z_zret rfl X (Nat.le_of_ble_eq_true rfl) (Nat.le_of_ble_eq_true rfl) ?_ dX3_feed_43
          have h9 : ¬ okFeedC cn w sc k g := fun h9 => c39 h9.2.2.2.1
          exact ⟨by rw [if_neg h9], rfl, by rw [if_neg h9]⟩
    · refine z_iconst X (v := nI 0) dX3_feed_17 (by decide) ?_
      refine z_zret rfl X (Nat.le_of_ble_eq_true rfl) (Nat.le_of_ble_eq_true rfl) ?_ dX3_feed_18
      have h9 : ¬ okFeedC cn w sc k g := fun h9 => c14 h9.2.1
      exact ⟨by rw [if_neg h9], rfl, by rw [if_neg h9]⟩
set_option maxHeartbeats 4000000 in
set_option maxRecDepth 100000 in
theorem p_in_i (l : Launch) (G : va_G) (cy : Nat → ClassId) (B : Nat) (ad : Nat → Nat) (cn : Nat → Nat) (u : Nat → Nat → Int32) (w : Nat → Nat → Int64) (x : Nat → Nat → UInt64) (r : Nat → Nat → Option Nat) (hI : CI ad cn r) (j : Nat) (hj : j < cn 6) (k : Int32) : Ct l G cy B yX3_in cX3_in 4 (some .long) ({ frames := 2, cells := 0, slots := 0, locals := 41 } : Room) ad (CF cy ad cn u w x r) [.ref (ad 0), .int (nI j), .int k] (fun v ad' f' => v = some (.long (if okKind k then w (j + 200) k.toNatClampNeg else -1)) ∧ ad = ad' ∧ CF cy ad cn u w x r = f') := by
  refine ct_of (by decide +kernel) (Nat.le_of_ble_eq_true rfl) ?_
  intro p e s m args below meth c X hnm
  have hI0 := hI
  obtain ⟨⟨hc3, hc4, hc6, hc9, hc12, hc14⟩, ⟨h30, h31, h32⟩, hr6, hr12, hr14⟩ := hI0
  refine z_lv (lv' := [(0, .ref (ad 0)), (1, .int (nI j)), (2, .int k)]) [0, 1, 2] rfl ?_
  refine z_aload_n X 0 dX3_in_0 rfl rfl ?_
  refine z_iload_n X 1 dX3_in_1 rfl rfl ?_
  refine z_callV X (n := 1) (As := [.int (nI j)]) (rest := []) 0 rfl (CF_at (k := 0) rfl rfl rfl rfl rfl) rfl (p_findBale_i l G cy B ad cn u w x r hI j hj) q_194 q_195 q_2 q_24 q_196 (by decide +kernel) ⟨Nat.le_of_ble_eq_true rfl, Nat.le_of_ble_eq_true rfl⟩ rfl rfl (Nat.le_of_ble_eq_true rfl) dX3_in_2 ⟨Nat.le_of_ble_eq_true rfl, Nat.le_of_ble_eq_true rfl⟩ (fun v ad' f' hp had => ?_)
  obtain ⟨rfl, rfl, rfl⟩ := hp
  refine z_st (st' := [.ref (ad (j + 100))]) rfl ?_
  refine z_astore_n X (lv' := [(3, .ref (ad (j + 100))), (0, .ref (ad 0)), (1, .int (nI j)), (2, .int k)]) dX3_in_5 rfl (by decide) rfl ?_
  refine z_aload_n X 0 dX3_in_6 rfl rfl ?_
  refine z_ifnull X dX3_in_7 ?_
  refine z_iload_n X 3 dX3_in_10 rfl rfl ?_
  refine z_callS X (n := 1) (As := [.int k]) (rest := []) (c_X3_isKind l G cy B ad (CF cy ad cn u w x r) k) q_138 q_139 q_24 q_140 (by decide +kernel) ⟨Nat.le_of_ble_eq_true rfl, Nat.le_of_ble_eq_true rfl⟩ rfl rfl (Nat.le_of_ble_eq_true rfl) dX3_in_11 ⟨Nat.le_of_ble_eq_true rfl, Nat.le_of_ble_eq_true rfl⟩ (fun v ad' f' hp had => ?_)
  obtain ⟨rfl, rfl, rfl⟩ := hp
  refine z_st (st' := [.int (nI (if okKind k then 1 else 0))]) rfl ?_
  refine z_if_neB X (tgt := 21) dX3_in_14 (by decide) (fun c14 => ?_) (fun c14 => ?_)
  · refine z_aload_n X 0 dX3_in_21 rfl rfl ?_
    refine z_iload_n X 3 dX3_in_22 rfl rfl ?_
    refine z_callV X (n := 1) (As := [.int k]) (rest := []) (j + 100) rfl (CF_at (k := j + 100) rfl rfl rfl rfl (cAt_b (i := j) (by omega) (by omega))) rfl (b_gramsOf l G cy B ad (CF cy ad cn u w x r) (j + 100) (j + 200) (x (j + 100) 1) (u (j + 100) 2) (u (j + 100) 3) (u (j + 100) 4) (u (j + 100) 5) (u (j + 100) 6) (r (j + 100) 7) (r (j + 100) 8) (w (j + 200)) (CF_at (k := j + 100) rfl rfl rfl rfl (cAt_b (i := j) (by omega) (by omega))) (CF_at (k := j + 200) rfl rfl rfl rfl (cAt_g (i := j) (by omega) (by omega))) k) q_198 q_199 q_200 q_30 q_201 (by decide +kernel) ⟨Nat.le_of_ble_eq_true rfl, Nat.le_of_ble_eq_true rfl⟩ rfl rfl (Nat.le_of_ble_eq_true rfl) dX3_in_23 ⟨Nat.le_of_ble_eq_true rfl, Nat.le_of_ble_eq_true rfl⟩ (fun v ad' f' hp had => ?_)
    obtain ⟨rfl, rfl, rfl⟩ := hp
    refine z_st (st' := [.long (if okKind k then w (j + 200) k.toNatClampNeg else 0)]) rfl ?_
    refine z_lret X (Nat.le_of_ble_eq_true rfl) (Nat.le_of_ble_eq_true rfl) ?_ dX3_in_26
    exact ⟨by rw [if_pos c14, if_pos c14], rfl, rfl⟩
  · refine z_ldc2 X dX3_in_17 q_197 ?_
    refine z_lret X (Nat.le_of_ble_eq_true rfl) (Nat.le_of_ble_eq_true rfl) ?_ dX3_in_20
    exact ⟨by rw [if_neg c14], rfl, rfl⟩
set_option maxHeartbeats 4000000 in
set_option maxRecDepth 100000 in
theorem p_in_o (l : Launch) (G : va_G) (cy : Nat → ClassId) (B : Nat) (ad : Nat → Nat) (cn : Nat → Nat) (u : Nat → Nat → Int32) (w : Nat → Nat → Int64) (x : Nat → Nat → UInt64) (r : Nat → Nat → Option Nat) (hI : CI ad cn r) (b : Int32) (hb : ¬ (¬ b < 0 ∧ ¬ nI (cn 6) ≤ b)) (k : Int32) : Ct l G cy B yX3_in cX3_in 4 (some .long) ({ frames := 1, cells := 0, slots := 0, locals := 21 } : Room) ad (CF cy ad cn u w x r) [.ref (ad 0), .int b, .int k] (fun v ad' f' => v = some (.long (-1)) ∧ ad = ad' ∧ CF cy ad cn u w x r = f') := by
  refine ct_of (by decide +kernel) (Nat.le_of_ble_eq_true rfl) ?_
  intro p e s m args below meth c X hnm
  have hI0 := hI
  obtain ⟨⟨hc3, hc4, hc6, hc9, hc12, hc14⟩, ⟨h30, h31, h32⟩, hr6, hr12, hr14⟩ := hI0
  refine z_lv (lv' := [(0, .ref (ad 0)), (1, .int b), (2, .int k)]) [0, 1, 2] rfl ?_
  refine z_aload_n X 0 dX3_in_0 rfl rfl ?_
  refine z_iload_n X 1 dX3_in_1 rfl rfl ?_
  refine z_callV X (n := 1) (As := [.int b]) (rest := []) 0 rfl (CF_at (k := 0) rfl rfl rfl rfl rfl) rfl (p_findBale_o l G cy B ad cn u w x r hI b hb) q_194 q_195 q_2 q_24 q_196 (by decide +kernel) ⟨Nat.le_of_ble_eq_true rfl, Nat.le_of_ble_eq_true rfl⟩ rfl rfl (Nat.le_of_ble_eq_true rfl) dX3_in_2 ⟨Nat.le_of_ble_eq_true rfl, Nat.le_of_ble_eq_true rfl⟩ (fun v ad' f' hp had => ?_)
  obtain ⟨rfl, rfl, rfl⟩ := hp
  refine z_st (st' := [.null]) rfl ?_
  refine z_astore_nN X (lv' := [(3, .null), (0, .ref (ad 0)), (1, .int b), (2, .int k)]) dX3_in_5 rfl (by decide) rfl ?_
  refine z_aload_nN X 0 dX3_in_6 rfl rfl ?_
  refine z_ifnullN X (tgt := 17) dX3_in_7 (by decide) ?_
  refine z_ldc2 X dX3_in_17 q_197 ?_
  refine z_lret X (Nat.le_of_ble_eq_true rfl) (Nat.le_of_ble_eq_true rfl) ?_ dX3_in_20
  exact ⟨rfl, rfl, rfl⟩
set_option maxHeartbeats 4000000 in
set_option maxRecDepth 100000 in
theorem p_count (l : Launch) (G : va_G) (cy : Nat → ClassId) (B : Nat) (ad : Nat → Nat) (cn : Nat → Nat) (u : Nat → Nat → Int32) (w : Nat → Nat → Int64) (x : Nat → Nat → UInt64) (r : Nat → Nat → Option Nat) (hI : CI ad cn r) (k : Int32) : Ct l G cy B yX3_count cX3_count 5 (some .long) ({ frames := 1, cells := 0, slots := 0, locals := 20 } : Room) ad (CF cy ad cn u w x r) [.ref (ad 0), .int k] (fun v ad' f' => v = some (.long (if okKind k then sumL (fun f => if u 2 (cn 4 + f) = k then w 3 (cn 4 + f) else 0) (cn 3 - cn 4) else -1)) ∧ ad = ad' ∧ CF cy ad cn u w x r = f') := by
  refine ct_of (by decide +kernel) (Nat.le_of_ble_eq_true rfl) ?_
  intro p e s m args below meth c X hnm
  have hI0 := hI
  obtain ⟨⟨hc3, hc4, hc6, hc9, hc12, hc14⟩, ⟨h30, h31, h32⟩, hr6, hr12, hr14⟩ := hI0
  refine z_lv (lv' := [(0, .ref (ad 0)), (1, .int k)]) [0, 1] rfl ?_
  refine z_iload_n X 1 dX3_count_0 rfl rfl ?_
  refine z_callS X (n := 1) (As := [.int k]) (rest := []) (c_X3_isKind l G cy B ad (CF cy ad cn u w x r) k) q_138 q_139 q_24 q_140 (by decide +kernel) ⟨Nat.le_of_ble_eq_true rfl, Nat.le_of_ble_eq_true rfl⟩ rfl rfl (Nat.le_of_ble_eq_true rfl) dX3_count_1 ⟨Nat.le_of_ble_eq_true rfl, Nat.le_of_ble_eq_true rfl⟩ (fun v ad' f' hp had => ?_)
  obtain ⟨rfl, rfl, rfl⟩ := hp
  refine z_st (st' := [.int (nI (if okKind k then 1 else 0))]) rfl ?_
  refine z_if_neB X (tgt := 11) dX3_count_4 (by decide) (fun c4 => ?_) (fun c4 => ?_)
  · refine z_lconst X (v := 0) dX3_count_11 rfl ?_
    refine z_lstore_n X (lv' := [(2, .long 0), (0, .ref (ad 0)), (1, .int k)]) dX3_count_12 rfl (by decide) rfl ?_
    refine z_aload_n X 1 dX3_count_13 rfl rfl ?_
    refine z_get X (v := .int (nI (cn 4))) 0 4 wa_X3 rfl rfl (CF_at (k := 0) rfl rfl rfl rfl rfl) (by decide) q_89 rfl rfl dX3_count_14 ?_
    refine z_istore X (lv' := [(4, .int (nI (cn 4))), (2, .long 0), (0, .ref (ad 0)), (1, .int k)]) dX3_count_17 (by decide) rfl ?_
    refine z_lv (lv' := [(0, .ref (ad 0)), (1, .int k), (2, .long 0), (4, .int (nI (cn 4)))]) [2, 3, 1, 0] rfl ?_
    have lp19 : ∀ (fu19 : Nat) (i : Nat) (sv : Int64), (cn 4 + i ≤ cn 3) → (sv = sumL (fun f => if u 2 (cn 4 + f) = k then w 3 (cn 4 + f) else 0) i) → cn 3 + 1 ≤ i + fu19 → Z G B 5 ad (CF cy ad cn u w x r) p l e ({ frames := 1, cells := 0, slots := 0, locals := 20 } : Room) s m args below meth c (zEnd G B ad (CF cy ad cn u w x r) below args s ({ frames := 1, cells := 0, slots := 0, locals := 20 } : Room) (fun v ad' f' => v = some (.long (if okKind k then sumL (fun f => if u 2 (cn 4 + f) = k then w 3 (cn 4 + f) else 0) (cn 3 - cn 4) else -1)) ∧ ad = ad' ∧ CF cy ad cn u w x r = f')) ad (CF cy ad cn u w x r) 0 0 19 [(0, .ref (ad 0)), (1, .int k), (2, .long sv), (4, .int (nI (cn 4 + i)))] [] := by
      intro fu19
      induction fu19 with
      | zero => intro i sv hi hs hm19; exact absurd hm19 (by omega)
      | succ fu19 ih19 =>
        intro i sv hi hs hm19
        refine z_iload X 3 dX3_count_19 rfl ?_
        refine z_aload_n X 0 dX3_count_21 rfl rfl ?_
        refine z_get X (v := .int (nI (cn 3))) 0 3 wa_X3 rfl rfl (CF_at (k := 0) rfl rfl rfl rfl rfl) (by decide) q_88 rfl rfl dX3_count_22 ?_
        refine z_icmp_geN X (tgt := 55) (by omega) (by omega) dX3_count_25 (by decide) (fun c25 => ?_) (fun c25 => ?_)
        · have e9 : i = cn 3 - cn 4 := by omega
          rw [e9] at hs
          refine z_lload_n X 2 dX3_count_55 rfl rfl ?_
          refine z_lret X (Nat.le_of_ble_eq_true rfl) (Nat.le_of_ble_eq_true rfl) ?_ dX3_count_56
          exact ⟨by rw [if_pos c4, hs], rfl, rfl⟩
        · refine z_aload_n X 0 dX3_count_28 rfl rfl ?_
          refine z_get X (v := .ref (ad 2)) 0 1 wa_X3 rfl rfl (CF_at (k := 0) rfl rfl rfl rfl rfl) (by decide) q_86 rfl rfl dX3_count_29 ?_
          refine z_iload X 3 dX3_count_32 rfl ?_
          refine z_ialdN X (n := 200) (g := u 2) 2 rfl (CF_at (k := 2) rfl rfl rfl rfl rfl) (by omega) (by decide) dX3_count_34 ?_
          refine z_iload_n X 1 dX3_count_35 rfl rfl ?_
          refine z_icmp_ne X (tgt := 49) dX3_count_36 (by decide) (fun c36 => ?_) (fun c36 => ?_)
          · refine z_iincN X 3 (k := 1) (lv' := [(4, .int (nI (cn 4 + i + 1))), (0, .ref (ad 0)), (1, .int k), (2, .long sv)]) dX3_count_49 rfl (by decide) (by decide) rfl ?_
            refine z_goto X (tgt := 19) dX3_count_52 (by decide) ?_
            refine z_lv (lv' := [(0, .ref (ad 0)), (1, .int k), (2, .long sv), (4, .int (nI (cn 4 + i + 1)))]) [1, 2, 3, 0] rfl ?_
            exact ih19 (i + 1) sv (by omega) (by exact sumL_n (g := fun f => w 3 (cn 4 + f)) hs c36) (by omega)
          · refine z_lload_n X 2 dX3_count_39 rfl rfl ?_
            refine z_aload_n X 0 dX3_count_40 rfl rfl ?_
            refine z_get X (v := .ref (ad 3)) 0 2 wa_X3 rfl rfl (CF_at (k := 0) rfl rfl rfl rfl rfl) (by decide) q_87 rfl rfl dX3_count_41 ?_
            refine z_iload X 3 dX3_count_44 rfl ?_
            refine z_laldN X (n := 200) (g := w 3) 3 rfl (CF_at (k := 3) rfl rfl rfl rfl rfl) (by omega) (by decide) dX3_count_46 ?_
            refine z_ladd X dX3_count_47 ?_
            refine z_lstore_n X (lv' := [(2, .long (sv + ((w 3) (cn 4 + i)))), (0, .ref (ad 0)), (1, .int k), (4, .int (nI (cn 4 + i)))]) dX3_count_48 rfl (by decide) rfl ?_
            refine z_iincN X 3 (k := 1) (lv' := [(4, .int (nI (cn 4 + i + 1))), (2, .long (sv + ((w 3) (cn 4 + i)))), (0, .ref (ad 0)), (1, .int k)]) dX3_count_49 rfl (by decide) (by decide) rfl ?_
            refine z_goto X (tgt := 19) dX3_count_52 (by decide) ?_
            refine z_lv (lv' := [(0, .ref (ad 0)), (1, .int k), (2, .long (sv + ((w 3) (cn 4 + i)))), (4, .int (nI (cn 4 + i + 1)))]) [2, 3, 1, 0] rfl ?_
            exact ih19 (i + 1) (sv + ((w 3) (cn 4 + i))) (by omega) (by exact sumL_t (g := fun f => w 3 (cn 4 + f)) hs c36) (by omega)
    exact lp19 (cn 3 + 1) 0 0 (by omega) (by rfl) (by omega)
  · refine z_ldc2 X dX3_count_7 q_197 ?_
    refine z_lret X (Nat.le_of_ble_eq_true rfl) (Nat.le_of_ble_eq_true rfl) ?_ dX3_count_10
    exact ⟨by rw [if_neg c4], rfl, rfl⟩
set_option maxHeartbeats 4000000 in
set_option maxRecDepth 100000 in
theorem p_wires_i (l : Launch) (G : va_G) (cy : Nat → ClassId) (B : Nat) (ad : Nat → Nat) (cn : Nat → Nat) (u : Nat → Nat → Int32) (w : Nat → Nat → Int64) (x : Nat → Nat → UInt64) (r : Nat → Nat → Option Nat) (hI : CI ad cn r) (j : Nat) (hj : j < cn 6) : Ct l G cy B yX3_wires cX3_wires 5 (some .int) ({ frames := 1, cells := 0, slots := 0, locals := 23 } : Room) ad (CF cy ad cn u w x r) [.ref (ad 0), .int (nI j)] (fun v ad' f' => v = some (.int (wiresOf ((sumL (w (j + 200)) 4 + 100000 - 1) / 100000))) ∧ ad = ad' ∧ CF cy ad cn u w x r = f') := by
  refine ct_of (by decide +kernel) (Nat.le_of_ble_eq_true rfl) ?_
  intro p e s m args below meth c X hnm
  have hI0 := hI
  obtain ⟨⟨hc3, hc4, hc6, hc9, hc12, hc14⟩, ⟨h30, h31, h32⟩, hr6, hr12, hr14⟩ := hI0
  refine z_lv (lv' := [(0, .ref (ad 0)), (1, .int (nI j))]) [0, 1] rfl ?_
  refine z_aload_n X 0 dX3_wires_0 rfl rfl ?_
  refine z_iload_n X 1 dX3_wires_1 rfl rfl ?_
  refine z_callV X (n := 1) (As := [.int (nI j)]) (rest := []) 0 rfl (CF_at (k := 0) rfl rfl rfl rfl rfl) rfl (p_findBale_i l G cy B ad cn u w x r hI j hj) q_194 q_195 q_2 q_24 q_196 (by decide +kernel) ⟨Nat.le_of_ble_eq_true rfl, Nat.le_of_ble_eq_true rfl⟩ rfl rfl (Nat.le_of_ble_eq_true rfl) dX3_wires_2 ⟨Nat.le_of_ble_eq_true rfl, Nat.le_of_ble_eq_true rfl⟩ (fun v ad' f' hp had => ?_)
  obtain ⟨rfl, rfl, rfl⟩ := hp
  refine z_st (st' := [.ref (ad (j + 100))]) rfl ?_
  refine z_astore_n X (lv' := [(2, .ref (ad (j + 100))), (0, .ref (ad 0)), (1, .int (nI j))]) dX3_wires_5 rfl (by decide) rfl ?_
  refine z_aload_n X 0 dX3_wires_6 rfl rfl ?_
  refine z_ifnonnull X (tgt := 12) dX3_wires_7 (by decide) ?_
  refine z_aload_n X 0 dX3_wires_12 rfl rfl ?_
  refine z_callV X (n := 0) (As := []) (rest := []) (j + 100) rfl (CF_at (k := j + 100) rfl rfl rfl rfl (cAt_b (i := j) (by omega) (by omega))) rfl (b_totalGrams l G cy B ad (CF cy ad cn u w x r) (j + 100) (j + 200) (x (j + 100) 1) (u (j + 100) 2) (u (j + 100) 3) (u (j + 100) 4) (u (j + 100) 5) (u (j + 100) 6) (r (j + 100) 7) (r (j + 100) 8) (w (j + 200)) (CF_at (k := j + 100) rfl rfl rfl rfl (cAt_b (i := j) (by omega) (by omega))) (CF_at (k := j + 200) rfl rfl rfl rfl (cAt_g (i := j) (by omega) (by omega)))) q_210 q_211 q_212 q_30 q_213 (by decide +kernel) ⟨Nat.le_of_ble_eq_true rfl, Nat.le_of_ble_eq_true rfl⟩ rfl rfl (Nat.le_of_ble_eq_true rfl) dX3_wires_13 ⟨Nat.le_of_ble_eq_true rfl, Nat.le_of_ble_eq_true rfl⟩ (fun v ad' f' hp had => ?_)
  obtain ⟨rfl, rfl, rfl⟩ := hp
  refine z_st (st' := [.long (sumL (w (j + 200)) 4)]) rfl ?_
  refine z_ldc2 X dX3_wires_16 q_214 ?_
  refine z_ladd X dX3_wires_19 ?_
  refine z_lconst X (v := 1) dX3_wires_20 rfl ?_
  refine z_lsub X dX3_wires_21 ?_
  refine z_ldc2 X dX3_wires_22 q_214 ?_
  refine z_ldiv X dX3_wires_25 (by decide) ?_
  refine z_lstore_n X (lv' := [(3, .long ((((sumL (w (j + 200)) 4) + 100000) - 1) / 100000)), (2, .ref (ad (j + 100))), (0, .ref (ad 0)), (1, .int (nI j))]) dX3_wires_26 rfl (by decide) rfl ?_
  refine z_lload_n X 0 dX3_wires_27 rfl rfl ?_
  refine z_ldc2 X dX3_wires_28 q_215 ?_
  refine z_lcmp_ge X (tgt := 39) dX3_wires_31 dX3_wires_32 (by decide) (fun c31 => ?_) (fun c31 => ?_)
  · refine z_lload_n X 0 dX3_wires_39 rfl rfl ?_
    refine z_l2i X dX3_wires_40 ?_
    refine z_iret X (Nat.le_of_ble_eq_true rfl) (Nat.le_of_ble_eq_true rfl) ?_ dX3_wires_41
    exact ⟨by unfold wiresOf; rw [if_neg (Int64.not_lt.mpr c31)], rfl, rfl⟩
  · refine z_iconst X (v := nI 3) dX3_wires_35 (by decide) ?_
    refine z_goto X (tgt := 41) dX3_wires_36 (by decide) ?_
    refine z_iret X (Nat.le_of_ble_eq_true rfl) (Nat.le_of_ble_eq_true rfl) ?_ dX3_wires_41
    exact ⟨by unfold wiresOf; rw [if_pos (Int64.not_le.mp c31)], rfl, rfl⟩
set_option maxHeartbeats 4000000 in
set_option maxRecDepth 100000 in
theorem p_wires_o (l : Launch) (G : va_G) (cy : Nat → ClassId) (B : Nat) (ad : Nat → Nat) (cn : Nat → Nat) (u : Nat → Nat → Int32) (w : Nat → Nat → Int64) (x : Nat → Nat → UInt64) (r : Nat → Nat → Option Nat) (hI : CI ad cn r) (b : Int32) (hb : ¬ (¬ b < 0 ∧ ¬ nI (cn 6) ≤ b)) : Ct l G cy B yX3_wires cX3_wires 5 (some .int) ({ frames := 1, cells := 0, slots := 0, locals := 21 } : Room) ad (CF cy ad cn u w x r) [.ref (ad 0), .int b] (fun v ad' f' => v = some (.int (-1)) ∧ ad = ad' ∧ CF cy ad cn u w x r = f') := by
  refine ct_of (by decide +kernel) (Nat.le_of_ble_eq_true rfl) ?_
  intro p e s m args below meth c X hnm
  have hI0 := hI
  obtain ⟨⟨hc3, hc4, hc6, hc9, hc12, hc14⟩, ⟨h30, h31, h32⟩, hr6, hr12, hr14⟩ := hI0
  refine z_lv (lv' := [(0, .ref (ad 0)), (1, .int b)]) [0, 1] rfl ?_
  refine z_aload_n X 0 dX3_wires_0 rfl rfl ?_
  refine z_iload_n X 1 dX3_wires_1 rfl rfl ?_
  refine z_callV X (n := 1) (As := [.int b]) (rest := []) 0 rfl (CF_at (k := 0) rfl rfl rfl rfl rfl) rfl (p_findBale_o l G cy B ad cn u w x r hI b hb) q_194 q_195 q_2 q_24 q_196 (by decide +kernel) ⟨Nat.le_of_ble_eq_true rfl, Nat.le_of_ble_eq_true rfl⟩ rfl rfl (Nat.le_of_ble_eq_true rfl) dX3_wires_2 ⟨Nat.le_of_ble_eq_true rfl, Nat.le_of_ble_eq_true rfl⟩ (fun v ad' f' hp had => ?_)
  obtain ⟨rfl, rfl, rfl⟩ := hp
  refine z_st (st' := [.null]) rfl ?_
  refine z_astore_nN X (lv' := [(2, .null), (0, .ref (ad 0)), (1, .int b)]) dX3_wires_5 rfl (by decide) rfl ?_
  refine z_aload_nN X 0 dX3_wires_6 rfl rfl ?_
  refine z_ifnonnullN X dX3_wires_7 ?_
  refine z_iconst X (v := -1) dX3_wires_10 (by decide) ?_
  refine z_iret X (Nat.le_of_ble_eq_true rfl) (Nat.le_of_ble_eq_true rfl) ?_ dX3_wires_11
  exact ⟨rfl, rfl, rfl⟩
set_option maxHeartbeats 4000000 in
set_option maxRecDepth 100000 in
theorem p_size_i (l : Launch) (G : va_G) (cy : Nat → ClassId) (B : Nat) (ad : Nat → Nat) (cn : Nat → Nat) (u : Nat → Nat → Int32) (w : Nat → Nat → Int64) (x : Nat → Nat → UInt64) (r : Nat → Nat → Option Nat) (hI : CI ad cn r) (j : Nat) (hj : j < cn 6) (p0 : UInt64) : Ct l G cy B yX3_size cX3_size 7 (some .double) ({ frames := 1, cells := 0, slots := 0, locals := 25 } : Room) ad (CF cy ad cn u w x r) [.ref (ad 0), .int (nI j), .double p0] (fun v ad' f' => (∃ r, v = some (.double r) ∧ (if dGe p0 4607182418800017408 = true ∧ dLe p0 4634204016564240384 = true then sizeR (sumL (w (j + 200)) 4) p0 r else r = 13830554455654793216)) ∧ ad = ad' ∧ CF cy ad cn u w x r = f') := by
  refine ct_of (by decide +kernel) (Nat.le_of_ble_eq_true rfl) ?_
  intro p e s m args below meth c X hnm
  have hI0 := hI
  obtain ⟨⟨hc3, hc4, hc6, hc9, hc12, hc14⟩, ⟨h30, h31, h32⟩, hr6, hr12, hr14⟩ := hI0
  refine z_lv (lv' := [(0, .ref (ad 0)), (1, .int (nI j)), (2, .double p0)]) [0, 1, 2] rfl ?_
  refine z_aload_n X 0 dX3_size_0 rfl rfl ?_
  refine z_iload_n X 1 dX3_size_1 rfl rfl ?_
  refine z_callV X (n := 1) (As := [.int (nI j)]) (rest := []) 0 rfl (CF_at (k := 0) rfl rfl rfl rfl rfl) rfl (p_findBale_i l G cy B ad cn u w x r hI j hj) q_194 q_195 q_2 q_24 q_196 (by decide +kernel) ⟨Nat.le_of_ble_eq_true rfl, Nat.le_of_ble_eq_true rfl⟩ rfl rfl (Nat.le_of_ble_eq_true rfl) dX3_size_2 ⟨Nat.le_of_ble_eq_true rfl, Nat.le_of_ble_eq_true rfl⟩ (fun v ad' f' hp had => ?_)
  obtain ⟨rfl, rfl, rfl⟩ := hp
  refine z_st (st' := [.ref (ad (j + 100))]) rfl ?_
  refine z_astore X (lv' := [(4, .ref (ad (j + 100))), (0, .ref (ad 0)), (1, .int (nI j)), (2, .double p0)]) dX3_size_5 (by decide) rfl ?_
  refine z_aload X 0 dX3_size_7 rfl ?_
  refine z_ifnull X dX3_size_9 ?_
  refine z_dload_n X 3 dX3_size_12 rfl rfl ?_
  refine z_dconst1 X dX3_size_13 ?_
  refine z_ldc2d X dX3_size_14 q_220 ?_
  refine z_callS X (n := 3) (As := [.double p0, .double 4607182418800017408, .double 4634204016564240384]) (rest := []) (c_X3_isBetween l G cy B ad (CF cy ad cn u w x r) p0 4607182418800017408 4634204016564240384) q_221 q_222 q_24 q_223 (by decide +kernel) ⟨Nat.le_of_ble_eq_true rfl, Nat.le_of_ble_eq_true rfl⟩ rfl rfl (Nat.le_of_ble_eq_true rfl) dX3_size_17 ⟨Nat.le_of_ble_eq_true rfl, Nat.le_of_ble_eq_true rfl⟩ (fun v ad' f' hp had => ?_)
  obtain ⟨rfl, rfl, rfl⟩ := hp
  refine z_st (st' := [.int (nI (if dGe p0 4607182418800017408 = true ∧ dLe p0 4634204016564240384 = true then 1 else 0))]) rfl ?_
  refine z_if_neB X (tgt := 27) dX3_size_20 (by decide) (fun c20 => ?_) (fun c20 => ?_)
  · refine z_aload X 0 dX3_size_27 rfl ?_
    refine z_callV X (n := 0) (As := []) (rest := []) (j + 100) rfl (CF_at (k := j + 100) rfl rfl rfl rfl (cAt_b (i := j) (by omega) (by omega))) rfl (b_totalGrams l G cy B ad (CF cy ad cn u w x r) (j + 100) (j + 200) (x (j + 100) 1) (u (j + 100) 2) (u (j + 100) 3) (u (j + 100) 4) (u (j + 100) 5) (u (j + 100) 6) (r (j + 100) 7) (r (j + 100) 8) (w (j + 200)) (CF_at (k := j + 100) rfl rfl rfl rfl (cAt_b (i := j) (by omega) (by omega))) (CF_at (k := j + 200) rfl rfl rfl rfl (cAt_g (i := j) (by omega) (by omega)))) q_210 q_211 q_212 q_30 q_213 (by decide +kernel) ⟨Nat.le_of_ble_eq_true rfl, Nat.le_of_ble_eq_true rfl⟩ rfl rfl (Nat.le_of_ble_eq_true rfl) dX3_size_29 ⟨Nat.le_of_ble_eq_true rfl, Nat.le_of_ble_eq_true rfl⟩ (fun v ad' f' hp had => ?_)
    obtain ⟨rfl, rfl, rfl⟩ := hp
    refine z_st (st' := [.long (sumL (w (j + 200)) 4)]) rfl ?_
    refine z_l2d X dX3_size_32 ?_
    refine z_ldc2d X dX3_size_33 q_225 ?_
    refine z_dmul X dX3_size_36 (fun r36 hr36 => ?_)
    refine z_dload_n X 3 dX3_size_37 rfl rfl ?_
    refine z_ddiv X dX3_size_38 (fun r38 hr38 => ?_)
    refine z_dstore X (lv' := [(5, .double r38), (4, .ref (ad (j + 100))), (0, .ref (ad 0)), (1, .int (nI j)), (2, .double p0)]) dX3_size_39 (by decide) rfl ?_
    refine z_dload X 0 dX3_size_41 rfl ?_
    refine z_dload X 0 dX3_size_43 rfl ?_
    refine z_ldc2d X dX3_size_45 q_226 ?_
    refine z_dmul X dX3_size_48 (fun r48 hr48 => ?_)
    refine z_dadd X dX3_size_49 (fun r49 hr49 => ?_)
    refine z_dret X (Nat.le_of_ble_eq_true rfl) (Nat.le_of_ble_eq_true rfl) ?_ dX3_size_50
    exact ⟨⟨_, rfl, by rw [if_pos c20]; exact ⟨r36, r38, r48, hr36, hr38, hr48, hr49⟩⟩, rfl, rfl⟩
  · refine z_ldc2d X dX3_size_23 q_224 ?_
    refine z_dret X (Nat.le_of_ble_eq_true rfl) (Nat.le_of_ble_eq_true rfl) ?_ dX3_size_26
    exact ⟨⟨_, rfl, by rw [if_neg c20]⟩, rfl, rfl⟩
set_option maxHeartbeats 4000000 in
set_option maxRecDepth 100000 in
theorem p_size_o (l : Launch) (G : va_G) (cy : Nat → ClassId) (B : Nat) (ad : Nat → Nat) (cn : Nat → Nat) (u : Nat → Nat → Int32) (w : Nat → Nat → Int64) (x : Nat → Nat → UInt64) (r : Nat → Nat → Option Nat) (hI : CI ad cn r) (b : Int32) (hb : ¬ (¬ b < 0 ∧ ¬ nI (cn 6) ≤ b)) (p0 : UInt64) : Ct l G cy B yX3_size cX3_size 7 (some .double) ({ frames := 1, cells := 0, slots := 0, locals := 21 } : Room) ad (CF cy ad cn u w x r) [.ref (ad 0), .int b, .double p0] (fun v ad' f' => (∃ r, v = some (.double r) ∧ r = 13830554455654793216) ∧ ad = ad' ∧ CF cy ad cn u w x r = f') := by
  refine ct_of (by decide +kernel) (Nat.le_of_ble_eq_true rfl) ?_
  intro p e s m args below meth c X hnm
  have hI0 := hI
  obtain ⟨⟨hc3, hc4, hc6, hc9, hc12, hc14⟩, ⟨h30, h31, h32⟩, hr6, hr12, hr14⟩ := hI0
  refine z_lv (lv' := [(0, .ref (ad 0)), (1, .int b), (2, .double p0)]) [0, 1, 2] rfl ?_
  refine z_aload_n X 0 dX3_size_0 rfl rfl ?_
  refine z_iload_n X 1 dX3_size_1 rfl rfl ?_
  refine z_callV X (n := 1) (As := [.int b]) (rest := []) 0 rfl (CF_at (k := 0) rfl rfl rfl rfl rfl) rfl (p_findBale_o l G cy B ad cn u w x r hI b hb) q_194 q_195 q_2 q_24 q_196 (by decide +kernel) ⟨Nat.le_of_ble_eq_true rfl, Nat.le_of_ble_eq_true rfl⟩ rfl rfl (Nat.le_of_ble_eq_true rfl) dX3_size_2 ⟨Nat.le_of_ble_eq_true rfl, Nat.le_of_ble_eq_true rfl⟩ (fun v ad' f' hp had => ?_)
  obtain ⟨rfl, rfl, rfl⟩ := hp
  refine z_st (st' := [.null]) rfl ?_
  refine z_astoreN X (lv' := [(4, .null), (0, .ref (ad 0)), (1, .int b), (2, .double p0)]) dX3_size_5 (by decide) rfl ?_
  refine z_aloadN X 0 dX3_size_7 rfl ?_
  refine z_ifnullN X (tgt := 23) dX3_size_9 (by decide) ?_
  refine z_ldc2d X dX3_size_23 q_224 ?_
  refine z_dret X (Nat.le_of_ble_eq_true rfl) (Nat.le_of_ble_eq_true rfl) ?_ dX3_size_26
  exact ⟨⟨_, rfl, rfl⟩, rfl, rfl⟩
set_option maxHeartbeats 4000000 in
set_option maxRecDepth 100000 in
theorem p_state_i (l : Launch) (G : va_G) (cy : Nat → ClassId) (B : Nat) (ad : Nat → Nat) (cn : Nat → Nat) (u : Nat → Nat → Int32) (w : Nat → Nat → Int64) (x : Nat → Nat → UInt64) (r : Nat → Nat → Option Nat) (hI : CI ad cn r) (j : Nat) (hj : j < cn 6) : Ct l G cy B yX3_state cX3_state 3 (some .int) ({ frames := 1, cells := 0, slots := 0, locals := 21 } : Room) ad (CF cy ad cn u w x r) [.ref (ad 0), .int (nI j)] (fun v ad' f' => v = some (.int (u (j + 100) 4)) ∧ ad = ad' ∧ CF cy ad cn u w x r = f') := by
  refine ct_of (by decide +kernel) (Nat.le_of_ble_eq_true rfl) ?_
  intro p e s m args below meth c X hnm
  have hI0 := hI
  obtain ⟨⟨hc3, hc4, hc6, hc9, hc12, hc14⟩, ⟨h30, h31, h32⟩, hr6, hr12, hr14⟩ := hI0
  refine z_lv (lv' := [(0, .ref (ad 0)), (1, .int (nI j))]) [0, 1] rfl ?_
  refine z_aload_n X 0 dX3_state_0 rfl rfl ?_
  refine z_iload_n X 1 dX3_state_1 rfl rfl ?_
  refine z_callV X (n := 1) (As := [.int (nI j)]) (rest := []) 0 rfl (CF_at (k := 0) rfl rfl rfl rfl rfl) rfl (p_findBale_i l G cy B ad cn u w x r hI j hj) q_194 q_195 q_2 q_24 q_196 (by decide +kernel) ⟨Nat.le_of_ble_eq_true rfl, Nat.le_of_ble_eq_true rfl⟩ rfl rfl (Nat.le_of_ble_eq_true rfl) dX3_state_2 ⟨Nat.le_of_ble_eq_true rfl, Nat.le_of_ble_eq_true rfl⟩ (fun v ad' f' hp had => ?_)
  obtain ⟨rfl, rfl, rfl⟩ := hp
  refine z_st (st' := [.ref (ad (j + 100))]) rfl ?_
  refine z_astore_n X (lv' := [(2, .ref (ad (j + 100))), (0, .ref (ad 0)), (1, .int (nI j))]) dX3_state_5 rfl (by decide) rfl ?_
  refine z_aload_n X 0 dX3_state_6 rfl rfl ?_
  refine z_ifnonnull X (tgt := 14) dX3_state_7 (by decide) ?_
  refine z_aload_n X 0 dX3_state_14 rfl rfl ?_
  refine z_getN X (v := .int (u (j + 100) 4)) (j + 100) 4 wa_X0 rfl rfl (CF_at (k := j + 100) rfl rfl rfl rfl (cAt_b (i := j) (by omega) (by omega))) (by decide) (List.mem_of_getElem? (i := 2) rfl) rfl rfl dX3_state_15 ?_
  refine z_iret X (Nat.le_of_ble_eq_true rfl) (Nat.le_of_ble_eq_true rfl) ?_ dX3_state_18
  exact ⟨rfl, rfl, rfl⟩
set_option maxHeartbeats 4000000 in
set_option maxRecDepth 100000 in
theorem p_state_o (l : Launch) (G : va_G) (cy : Nat → ClassId) (B : Nat) (ad : Nat → Nat) (cn : Nat → Nat) (u : Nat → Nat → Int32) (w : Nat → Nat → Int64) (x : Nat → Nat → UInt64) (r : Nat → Nat → Option Nat) (hI : CI ad cn r) (b : Int32) (hb : ¬ (¬ b < 0 ∧ ¬ nI (cn 6) ≤ b)) : Ct l G cy B yX3_state cX3_state 3 (some .int) ({ frames := 1, cells := 0, slots := 0, locals := 21 } : Room) ad (CF cy ad cn u w x r) [.ref (ad 0), .int b] (fun v ad' f' => v = some (.int (-1)) ∧ ad = ad' ∧ CF cy ad cn u w x r = f') := by
  refine ct_of (by decide +kernel) (Nat.le_of_ble_eq_true rfl) ?_
  intro p e s m args below meth c X hnm
  have hI0 := hI
  obtain ⟨⟨hc3, hc4, hc6, hc9, hc12, hc14⟩, ⟨h30, h31, h32⟩, hr6, hr12, hr14⟩ := hI0
  refine z_lv (lv' := [(0, .ref (ad 0)), (1, .int b)]) [0, 1] rfl ?_
  refine z_aload_n X 0 dX3_state_0 rfl rfl ?_
  refine z_iload_n X 1 dX3_state_1 rfl rfl ?_
  refine z_callV X (n := 1) (As := [.int b]) (rest := []) 0 rfl (CF_at (k := 0) rfl rfl rfl rfl rfl) rfl (p_findBale_o l G cy B ad cn u w x r hI b hb) q_194 q_195 q_2 q_24 q_196 (by decide +kernel) ⟨Nat.le_of_ble_eq_true rfl, Nat.le_of_ble_eq_true rfl⟩ rfl rfl (Nat.le_of_ble_eq_true rfl) dX3_state_2 ⟨Nat.le_of_ble_eq_true rfl, Nat.le_of_ble_eq_true rfl⟩ (fun v ad' f' hp had => ?_)
  obtain ⟨rfl, rfl, rfl⟩ := hp
  refine z_st (st' := [.null]) rfl ?_
  refine z_astore_nN X (lv' := [(2, .null), (0, .ref (ad 0)), (1, .int b)]) dX3_state_5 rfl (by decide) rfl ?_
  refine z_aload_nN X 0 dX3_state_6 rfl rfl ?_
  refine z_ifnonnullN X dX3_state_7 ?_
  refine z_iconst X (v := -1) dX3_state_10 (by decide) ?_
  refine z_goto X (tgt := 18) dX3_state_11 (by decide) ?_
  refine z_iret X (Nat.le_of_ble_eq_true rfl) (Nat.le_of_ble_eq_true rfl) ?_ dX3_state_18
  exact ⟨rfl, rfl, rfl⟩
set_option maxHeartbeats 4000000 in
set_option maxRecDepth 100000 in
theorem p_row (l : Launch) (G : va_G) (cy : Nat → ClassId) (B : Nat) (ad : Nat → Nat) (cn : Nat → Nat) (u : Nat → Nat → Int32) (w : Nat → Nat → Int64) (x : Nat → Nat → UInt64) (r : Nat → Nat → Option Nat) (hI : CI ad cn r) (dg ht : UInt64) : Ct l G cy B yX3_row cX3_row 5 (some .boolean) ({ frames := 1, cells := 0, slots := 0, locals := 25 } : Room) ad (CF cy ad cn u w x r) [.ref (ad 0), .double dg, .double ht] (fun v ad' f' => v = some (.int (nI (if okRowC cn x dg ht then 1 else 0))) ∧ ad = ad' ∧ (if okRowC cn x dg ht then CF cy ad (va_up cn 9 (cn 9 + 1)) u w (va_up (va_up x 8 (vf_upd (x 8) (cn 9) dg)) 9 (vf_upd (x 9) (cn 9) ht)) r else CF cy ad cn u w x r) = f') := by
  refine ct_of (by decide +kernel) (Nat.le_of_ble_eq_true rfl) ?_
  intro p e s m args below meth c X hnm
  have hI0 := hI
  obtain ⟨⟨hc3, hc4, hc6, hc9, hc12, hc14⟩, ⟨h30, h31, h32⟩, hr6, hr12, hr14⟩ := hI0
  refine z_lv (lv' := [(0, .ref (ad 0)), (1, .double dg), (3, .double ht)]) [0, 1, 2] rfl ?_
  refine z_aload_n X 0 dX3_row_0 rfl rfl ?_
  refine z_get X (v := .int (nI (cn 9))) 0 9 wa_X3 rfl rfl (CF_at (k := 0) rfl rfl rfl rfl rfl) (by decide) q_94 rfl rfl dX3_row_1 ?_
  refine z_bipush X (v := nI 6) dX3_row_4 (by decide) ?_
  refine z_icmp_ltN X (tgt := 11) (by omega) (by omega) dX3_row_6 (by decide) (fun c6 => ?_) (fun c6 => ?_)
  · refine z_dload_n X 1 dX3_row_11 rfl rfl ?_
    refine z_ldc2d X dX3_row_12 q_231 ?_
    refine z_ldc2d X dX3_row_15 q_232 ?_
    refine z_callS X (n := 3) (As := [.double dg, .double 13855605728582041600, .double 4641240890982006784]) (rest := []) (c_X3_isBetween l G cy B ad (CF cy ad cn u w x r) dg 13855605728582041600 4641240890982006784) q_221 q_222 q_24 q_223 (by decide +kernel) ⟨Nat.le_of_ble_eq_true rfl, Nat.le_of_ble_eq_true rfl⟩ rfl rfl (Nat.le_of_ble_eq_true rfl) dX3_row_18 ⟨Nat.le_of_ble_eq_true rfl, Nat.le_of_ble_eq_true rfl⟩ (fun v ad' f' hp had => ?_)
    obtain ⟨rfl, rfl, rfl⟩ := hp
    refine z_st (st' := [.int (nI (if dGe dg 13855605728582041600 = true ∧ dLe dg 4641240890982006784 = true then 1 else 0))]) rfl ?_
    refine z_if_eqB X (tgt := 35) dX3_row_21 (by decide) (fun c21 => ?_) (fun c21 => ?_)
    · refine z_iconst X (v := nI 0) dX3_row_35 (by decide) ?_
      refine z_zret rfl X (Nat.le_of_ble_eq_true rfl) (Nat.le_of_ble_eq_true rfl) ?_ dX3_row_36
      have h9 : ¬ okRowC cn x dg ht := fun h9 => c21 h9.2.1
      exact ⟨by rw [if_neg h9], rfl, by rw [if_neg h9]⟩
    · refine z_dload_n X 2 dX3_row_24 rfl rfl ?_
      refine z_dconst0 X dX3_row_25 ?_
      refine z_ldc2d X dX3_row_26 q_233 ?_
      refine z_callS X (n := 3) (As := [.double ht, .double 0, .double 4621819117588971520]) (rest := []) (c_X3_isBetween l G cy B ad (CF cy ad cn u w x r) ht 0 4621819117588971520) q_221 q_222 q_24 q_223 (by decide +kernel) ⟨Nat.le_of_ble_eq_true rfl, Nat.le_of_ble_eq_true rfl⟩ rfl rfl (Nat.le_of_ble_eq_true rfl) dX3_row_29 ⟨Nat.le_of_ble_eq_true rfl, Nat.le_of_ble_eq_true rfl⟩ (fun v ad' f' hp had => ?_)
      obtain ⟨rfl, rfl, rfl⟩ := hp
      refine z_st (st' := [.int (nI (if dGe ht 0 = true ∧ dLe ht 4621819117588971520 = true then 1 else 0))]) rfl ?_
      refine z_if_neB X (tgt := 37) dX3_row_32 (by decide) (fun c32 => ?_) (fun c32 => ?_)
      · refine z_aload_n X 0 dX3_row_37 rfl rfl ?_
        refine z_get X (v := .int (nI (cn 9))) 0 9 wa_X3 rfl rfl (CF_at (k := 0) rfl rfl rfl rfl rfl) (by decide) q_94 rfl rfl dX3_row_38 ?_
        refine z_if_leN X (tgt := 62) (by omega) dX3_row_41 (by decide) (fun c41 => ?_) (fun c41 => ?_)
        · refine z_aload_n X 0 dX3_row_62 rfl rfl ?_
          refine z_get X (v := .ref (ad 8)) 0 7 wa_X3 rfl rfl (CF_at (k := 0) rfl rfl rfl rfl rfl) (by decide) q_92 rfl rfl dX3_row_63 ?_
          refine z_aload_n X 0 dX3_row_66 rfl rfl ?_
          refine z_get X (v := .int (nI (cn 9))) 0 9 wa_X3 rfl rfl (CF_at (k := 0) rfl rfl rfl rfl rfl) (by decide) q_94 rfl rfl dX3_row_67 ?_
          refine z_dload_n X 1 dX3_row_70 rfl rfl ?_
          refine z_dastN X (n := 6) (g := x 8) 8 rfl (CF_at (k := 8) rfl rfl rfl rfl rfl) (by omega) (by decide) dX3_row_71 ?_
          refine z_f (CFs_x (k := 8) (vf_upd (x 8) (cn 9) dg) rfl rfl rfl rfl) ?_
          refine z_aload_n X 0 dX3_row_72 rfl rfl ?_
          refine z_get X (v := .ref (ad 9)) 0 8 wa_X3 rfl rfl (CF_at (k := 0) rfl rfl rfl rfl rfl) (by decide) q_93 rfl rfl dX3_row_73 ?_
          refine z_aload_n X 0 dX3_row_76 rfl rfl ?_
          refine z_get X (v := .int (nI (cn 9))) 0 9 wa_X3 rfl rfl (CF_at (k := 0) rfl rfl rfl rfl rfl) (by decide) q_94 rfl rfl dX3_row_77 ?_
          refine z_dload_n X 2 dX3_row_80 rfl rfl ?_
          refine z_dastN X (n := 6) (g := x 9) 9 rfl (CF_at (k := 9) rfl rfl rfl rfl rfl) (by omega) (by decide) dX3_row_81 ?_
          refine z_f (CFs_x (k := 9) (vf_upd (x 9) (cn 9) ht) rfl rfl rfl rfl) ?_
          refine z_aload_n X 0 dX3_row_82 rfl rfl ?_
          refine z_dup X dX3_row_83 rfl ?_
          refine z_get X (v := .int (nI (cn 9))) 0 9 wa_X3 rfl rfl (CF_at (k := 0) rfl rfl rfl rfl rfl) (by decide) q_94 rfl rfl dX3_row_84 ?_
          refine z_iconst X (v := nI 1) dX3_row_87 (by decide) ?_
          refine z_iaddN X dX3_row_88 ?_
          refine z_put X (ty := .int) 0 9 wa_X3 tyX3 tyX3_ok nmX3 rfl rfl (CF_at (k := 0) rfl rfl rfl rfl rfl) (by decide) q_94 rfl rfl (by decide +kernel) rfl rfl (Nat.le_of_ble_eq_true rfl) dX3_row_89 ?_
          refine z_f (CF_c (cn' := va_up cn 9 ((cn 9) + 1)) 0 (Or.inl rfl) rfl rfl rfl rfl (fun _ => rfl) (fun h => absurd h (by decide))) ?_
          refine z_iconst X (v := nI 1) dX3_row_92 (by decide) ?_
          refine z_zret rfl X (Nat.le_of_ble_eq_true rfl) (Nat.le_of_ble_eq_true rfl) ?_ dX3_row_93
          have h9 : okRowC cn x dg ht := ⟨c6, c21, c32, fun h => absurd h.1 (by omega)⟩
          exact ⟨by rw [if_pos h9], rfl, by rw [if_pos h9]⟩
        · refine z_dload_n X 1 dX3_row_44 rfl rfl ?_
          refine z_aload_n X 0 dX3_row_45 rfl rfl ?_
          refine z_get X (v := .ref (ad 8)) 0 7 wa_X3 rfl rfl (CF_at (k := 0) rfl rfl rfl rfl rfl) (by decide) q_92 rfl rfl dX3_row_46 ?_
          refine z_aload_n X 0 dX3_row_49 rfl rfl ?_
          refine z_get X (v := .int (nI (cn 9))) 0 9 wa_X3 rfl rfl (CF_at (k := 0) rfl rfl rfl rfl rfl) (by decide) q_94 rfl rfl dX3_row_50 ?_
          refine z_iconst X (v := nI 1) dX3_row_53 (by decide) ?_
          refine z_isubN X (by omega) dX3_row_54 ?_
          refine z_daldN X (n := 6) (g := x 8) 8 rfl (CF_at (k := 8) rfl rfl rfl rfl rfl) (by omega) (by decide) dX3_row_55 ?_
          refine z_dcmp_gt X (tgt := 62) dX3_row_56 dX3_row_57 (by decide) (fun c56 => ?_) (fun c56 => ?_)
          · refine z_aload_n X 0 dX3_row_62 rfl rfl ?_
            refine z_get X (v := .ref (ad 8)) 0 7 wa_X3 rfl rfl (CF_at (k := 0) rfl rfl rfl rfl rfl) (by decide) q_92 rfl rfl dX3_row_63 ?_
            refine z_aload_n X 0 dX3_row_66 rfl rfl ?_
            refine z_get X (v := .int (nI (cn 9))) 0 9 wa_X3 rfl rfl (CF_at (k := 0) rfl rfl rfl rfl rfl) (by decide) q_94 rfl rfl dX3_row_67 ?_
            refine z_dload_n X 1 dX3_row_70 rfl rfl ?_
            refine z_dastN X (n := 6) (g := x 8) 8 rfl (CF_at (k := 8) rfl rfl rfl rfl rfl) (by omega) (by decide) dX3_row_71 ?_
            refine z_f (CFs_x (k := 8) (vf_upd (x 8) (cn 9) dg) rfl rfl rfl rfl) ?_
            refine z_aload_n X 0 dX3_row_72 rfl rfl ?_
            refine z_get X (v := .ref (ad 9)) 0 8 wa_X3 rfl rfl (CF_at (k := 0) rfl rfl rfl rfl rfl) (by decide) q_93 rfl rfl dX3_row_73 ?_
            refine z_aload_n X 0 dX3_row_76 rfl rfl ?_
            refine z_get X (v := .int (nI (cn 9))) 0 9 wa_X3 rfl rfl (CF_at (k := 0) rfl rfl rfl rfl rfl) (by decide) q_94 rfl rfl dX3_row_77 ?_
            refine z_dload_n X 2 dX3_row_80 rfl rfl ?_
            refine z_dastN X (n := 6) (g := x 9) 9 rfl (CF_at (k := 9) rfl rfl rfl rfl rfl) (by omega) (by decide) dX3_row_81 ?_
            refine z_f (CFs_x (k := 9) (vf_upd (x 9) (cn 9) ht) rfl rfl rfl rfl) ?_
            refine z_aload_n X 0 dX3_row_82 rfl rfl ?_
            refine z_dup X dX3_row_83 rfl ?_
            refine z_get X (v := .int (nI (cn 9))) 0 9 wa_X3 rfl rfl (CF_at (k := 0) rfl rfl rfl rfl rfl) (by decide) q_94 rfl rfl dX3_row_84 ?_
            refine z_iconst X (v := nI 1) dX3_row_87 (by decide) ?_
            refine z_iaddN X dX3_row_88 ?_
            refine z_put X (ty := .int) 0 9 wa_X3 tyX3 tyX3_ok nmX3 rfl rfl (CF_at (k := 0) rfl rfl rfl rfl rfl) (by decide) q_94 rfl rfl (by decide +kernel) rfl rfl (Nat.le_of_ble_eq_true rfl) dX3_row_89 ?_
            refine z_f (CF_c (cn' := va_up cn 9 ((cn 9) + 1)) 0 (Or.inl rfl) rfl rfl rfl rfl (fun _ => rfl) (fun h => absurd h (by decide))) ?_
            refine z_iconst X (v := nI 1) dX3_row_92 (by decide) ?_
            refine z_zret rfl X (Nat.le_of_ble_eq_true rfl) (Nat.le_of_ble_eq_true rfl) ?_ dX3_row_93
            have h9 : okRowC cn x dg ht := ⟨c6, c21, c32, fun h => absurd h.2 (by rw [c56]; exact Bool.false_ne_true)⟩
            exact ⟨by rw [if_pos h9], rfl, by rw [if_pos h9]⟩
          · refine z_iconst X (v := nI 0) dX3_row_60 (by decide) ?_
            refine z_zret rfl X (Nat.le_of_ble_eq_true rfl) (Nat.le_of_ble_eq_true rfl) ?_ dX3_row_61
            have h9 : ¬ okRowC cn x dg ht := fun h9 => h9.2.2.2 ⟨by omega, c56⟩
            exact ⟨by rw [if_neg h9], rfl, by rw [if_neg h9]⟩
      · refine z_iconst X (v := nI 0) dX3_row_35 (by decide) ?_
        refine z_zret rfl X (Nat.le_of_ble_eq_true rfl) (Nat.le_of_ble_eq_true rfl) ?_ dX3_row_36
        have h9 : ¬ okRowC cn x dg ht := fun h9 => c32 h9.2.2.1
        exact ⟨by rw [if_neg h9], rfl, by rw [if_neg h9]⟩
  · refine z_iconst X (v := nI 0) dX3_row_9 (by decide) ?_
    refine z_zret rfl X (Nat.le_of_ble_eq_true rfl) (Nat.le_of_ble_eq_true rfl) ?_ dX3_row_10
    have h9 : ¬ okRowC cn x dg ht := fun h9 => by have := h9.1; omega
    exact ⟨by rw [if_neg h9], rfl, by rw [if_neg h9]⟩
set_option maxHeartbeats 4000000 in
set_option maxRecDepth 100000 in
theorem p_hold (l : Launch) (G : va_G) (cy : Nat → ClassId) (B : Nat) (ad : Nat → Nat) (cn : Nat → Nat) (u : Nat → Nat → Int32) (w : Nat → Nat → Int64) (x : Nat → Nat → UInt64) (r : Nat → Nat → Option Nat) (hI : CI ad cn r) (h : Int32) : Ct l G cy B yX3_hold cX3_hold 2 (some .boolean) ({ frames := 1, cells := 0, slots := 0, locals := 25 } : Room) ad (CF cy ad cn u w x r) [.ref (ad 0), .int h] (fun v ad' f' => v = some (.int (nI (if 1 ≤ h.toInt64 ∧ h.toInt64 ≤ 1000 then 1 else 0))) ∧ ad = ad' ∧ (if 1 ≤ h.toInt64 ∧ h.toInt64 ≤ 1000 then CF cy ad cn (va_up u 0 (upd (u 0) 10 h)) w x r else CF cy ad cn u w x r) = f') := by
  refine ct_of (by decide +kernel) (Nat.le_of_ble_eq_true rfl) ?_
  intro p e s m args below meth c X hnm
  have hI0 := hI
  obtain ⟨⟨hc3, hc4, hc6, hc9, hc12, hc14⟩, ⟨h30, h31, h32⟩, hr6, hr12, hr14⟩ := hI0
  refine z_lv (lv' := [(0, .ref (ad 0)), (1, .int h)]) [0, 1] rfl ?_
  refine z_iload_n X 1 dX3_hold_0 rfl rfl ?_
  refine z_i2l X dX3_hold_1 ?_
  refine z_lconst X (v := 1) dX3_hold_2 rfl ?_
  refine z_ldc2 X dX3_hold_3 q_265 ?_
  refine z_callS X (n := 3) (As := [.long h.toInt64, .long 1, .long 1000]) (rest := []) (c_X3_isWithin l G cy B ad (CF cy ad cn u w x r) h.toInt64 1 1000) q_142 q_143 q_24 q_144 (by decide +kernel) ⟨Nat.le_of_ble_eq_true rfl, Nat.le_of_ble_eq_true rfl⟩ rfl rfl (Nat.le_of_ble_eq_true rfl) dX3_hold_6 ⟨Nat.le_of_ble_eq_true rfl, Nat.le_of_ble_eq_true rfl⟩ (fun v ad' f' hp had => ?_)
  obtain ⟨rfl, rfl, rfl⟩ := hp
  refine z_st (st' := [.int (nI (if 1 ≤ h.toInt64 ∧ h.toInt64 ≤ 1000 then 1 else 0))]) rfl ?_
  refine z_if_neB X (tgt := 14) dX3_hold_9 (by decide) (fun c9 => ?_) (fun c9 => ?_)
  · refine z_aload_n X 0 dX3_hold_14 rfl rfl ?_
    refine z_iload_n X 1 dX3_hold_15 rfl rfl ?_
    refine z_put X (ty := .int) 0 10 wa_X3 tyX3 tyX3_ok nmX3 rfl rfl (CF_at (k := 0) rfl rfl rfl rfl rfl) (by decide) q_95 rfl rfl (by decide +kernel) rfl rfl (Nat.le_of_ble_eq_true rfl) dX3_hold_16 ?_
    refine z_f (CFs_u (k := 0) (upd (u 0) 10 h) rfl rfl rfl rfl) ?_
    refine z_iconst X (v := nI 1) dX3_hold_19 (by decide) ?_
    refine z_zret rfl X (Nat.le_of_ble_eq_true rfl) (Nat.le_of_ble_eq_true rfl) ?_ dX3_hold_20
    exact ⟨by rw [if_pos c9], rfl, by rw [if_pos c9]⟩
  · refine z_iconst X (v := nI 0) dX3_hold_12 (by decide) ?_
    refine z_zret rfl X (Nat.le_of_ble_eq_true rfl) (Nat.le_of_ble_eq_true rfl) ?_ dX3_hold_13
    exact ⟨by rw [if_neg c9], rfl, by rw [if_neg c9]⟩
set_option maxHeartbeats 4000000 in
set_option maxRecDepth 100000 in
theorem p_alarm (l : Launch) (G : va_G) (cy : Nat → ClassId) (B : Nat) (ad : Nat → Nat) (cn : Nat → Nat) (u : Nat → Nat → Int32) (w : Nat → Nat → Int64) (x : Nat → Nat → UInt64) (r : Nat → Nat → Option Nat) (hI : CI ad cn r) (k : Int32) : Ct l G cy B yX3_alarm cX3_alarm 4 (some .int) ({ frames := 2, cells := 0, slots := 0, locals := 43 } : Room) ad (CF cy ad cn u w x r) [.ref (ad 0), .int k] (fun v ad' f' => v = some (.int (scanK (fun b => decide (alarmC u b)) k (cn 6) 0 0)) ∧ ad = ad' ∧ CF cy ad cn u w x r = f') := by
  refine ct_of (by decide +kernel) (Nat.le_of_ble_eq_true rfl) ?_
  intro p e s m args below meth c X hnm
  have hI0 := hI
  obtain ⟨⟨hc3, hc4, hc6, hc9, hc12, hc14⟩, ⟨h30, h31, h32⟩, hr6, hr12, hr14⟩ := hI0
  refine z_lv (lv' := [(0, .ref (ad 0)), (1, .int k)]) [0, 1] rfl ?_
  refine z_iconst X (v := nI 0) dX3_alarm_0 (by decide) ?_
  refine z_istore_n X (lv' := [(2, .int (nI 0)), (0, .ref (ad 0)), (1, .int k)]) dX3_alarm_1 rfl (by decide) rfl ?_
  refine z_iconst X (v := nI 0) dX3_alarm_2 (by decide) ?_
  refine z_istore_n X (lv' := [(3, .int (nI 0)), (2, .int (nI 0)), (0, .ref (ad 0)), (1, .int k)]) dX3_alarm_3 rfl (by decide) rfl ?_
  refine z_lv (lv' := [(0, .ref (ad 0)), (1, .int k), (2, .int (nI 0)), (3, .int (nI 0))]) [2, 3, 1, 0] rfl ?_
  have lp4 : ∀ (fu4 : Nat) (i sn : Nat), (i ≤ cn 6) → (sn ≤ i) → (scanK (fun b => decide (alarmC u b)) k (cn 6 - i) i sn = scanK (fun b => decide (alarmC u b)) k (cn 6) 0 0) → cn 6 + 1 ≤ i + fu4 → Z G B 4 ad (CF cy ad cn u w x r) p l e ({ frames := 2, cells := 0, slots := 0, locals := 43 } : Room) s m args below meth c (zEnd G B ad (CF cy ad cn u w x r) below args s ({ frames := 2, cells := 0, slots := 0, locals := 43 } : Room) (fun v ad' f' => v = some (.int (scanK (fun b => decide (alarmC u b)) k (cn 6) 0 0)) ∧ ad = ad' ∧ CF cy ad cn u w x r = f')) ad (CF cy ad cn u w x r) 0 0 4 [(0, .ref (ad 0)), (1, .int k), (2, .int (nI sn)), (3, .int (nI i))] [] := by
    intro fu4
    induction fu4 with
    | zero => intro i sn hi hsn hs hm4; exact absurd hm4 (by omega)
    | succ fu4 ih4 =>
      intro i sn hi hsn hs hm4
      refine z_iload_n X 3 dX3_alarm_4 rfl rfl ?_
      refine z_aload_n X 0 dX3_alarm_5 rfl rfl ?_
      refine z_get X (v := .int (nI (cn 6))) 0 6 wa_X3 rfl rfl (CF_at (k := 0) rfl rfl rfl rfl rfl) (by decide) q_91 rfl rfl dX3_alarm_6 ?_
      refine z_icmp_geN X (tgt := 36) (by omega) (by omega) dX3_alarm_9 (by decide) (fun c9 => ?_) (fun c9 => ?_)
      · refine z_iconst X (v := -1) dX3_alarm_36 (by decide) ?_
        refine z_iret X (Nat.le_of_ble_eq_true rfl) (Nat.le_of_ble_eq_true rfl) ?_ dX3_alarm_37
        exact ⟨by rw [← hs, show cn 6 - i = 0 by omega]; rfl, rfl, rfl⟩
      · refine z_aload_n X 0 dX3_alarm_12 rfl rfl ?_
        refine z_iload_n X 3 dX3_alarm_13 rfl rfl ?_
        refine z_callV X (n := 1) (As := [.int (nI i)]) (rest := []) 0 rfl (CF_at (k := 0) rfl rfl rfl rfl rfl) rfl (p_isAlarming l G cy B ad cn u w x r hI i (by omega)) q_270 q_271 q_4 q_24 q_272 (by decide +kernel) ⟨Nat.le_of_ble_eq_true rfl, Nat.le_of_ble_eq_true rfl⟩ rfl rfl (Nat.le_of_ble_eq_true rfl) dX3_alarm_14 ⟨Nat.le_of_ble_eq_true rfl, Nat.le_of_ble_eq_true rfl⟩ (fun v ad' f' hp had => ?_)
        obtain ⟨rfl, rfl, rfl⟩ := hp
        refine z_st (st' := [.int (nI (if alarmC u i then 1 else 0))]) rfl ?_
        refine z_if_eqB X (tgt := 30) dX3_alarm_17 (by decide) (fun c17 => ?_) (fun c17 => ?_)
        · refine z_iincN X 3 (k := 1) (lv' := [(3, .int (nI (i + 1))), (0, .ref (ad 0)), (1, .int k), (2, .int (nI sn))]) dX3_alarm_30 rfl (by decide) (by decide) rfl ?_
          refine z_goto X (tgt := 4) dX3_alarm_33 (by decide) ?_
          refine z_lv (lv' := [(0, .ref (ad 0)), (1, .int k), (2, .int (nI sn)), (3, .int (nI (i + 1)))]) [1, 2, 3, 0] rfl ?_
          exact ih4 (i + 1) sn (by omega) (by omega) (by rw [← hs]; exact scanK_f (by omega) (decide_eq_false c17)) (by omega)
        · refine z_iload_n X 2 dX3_alarm_20 rfl rfl ?_
          refine z_iload_n X 1 dX3_alarm_21 rfl rfl ?_
          refine z_icmp_ne X (tgt := 27) dX3_alarm_22 (by decide) (fun c22 => ?_) (fun c22 => ?_)
          · refine z_iincN X 2 (k := 1) (lv' := [(2, .int (nI (sn + 1))), (0, .ref (ad 0)), (1, .int k), (3, .int (nI i))]) dX3_alarm_27 rfl (by decide) (by decide) rfl ?_
            refine z_iincN X 3 (k := 1) (lv' := [(3, .int (nI (i + 1))), (2, .int (nI (sn + 1))), (0, .ref (ad 0)), (1, .int k)]) dX3_alarm_30 rfl (by decide) (by decide) rfl ?_
            refine z_goto X (tgt := 4) dX3_alarm_33 (by decide) ?_
            refine z_lv (lv' := [(0, .ref (ad 0)), (1, .int k), (2, .int (nI (sn + 1))), (3, .int (nI (i + 1)))]) [2, 3, 1, 0] rfl ?_
            exact ih4 (i + 1) (sn + 1) (by omega) (by omega) (by rw [← hs]; exact scanK_n (by omega) (decide_eq_true c17) c22) (by omega)
          · refine z_iload_n X 3 dX3_alarm_25 rfl rfl ?_
            refine z_iret X (Nat.le_of_ble_eq_true rfl) (Nat.le_of_ble_eq_true rfl) ?_ dX3_alarm_26
            exact ⟨by rw [← hs, ← scanK_y (by omega) (decide_eq_true c17) c22], rfl, rfl⟩
  exact lp4 (cn 6 + 1) 0 0 (by omega) (by omega) (by rfl) (by omega)
set_option maxHeartbeats 4000000 in
set_option maxRecDepth 100000 in
theorem p_warm_i (l : Launch) (G : va_G) (cy : Nat → ClassId) (B : Nat) (ad : Nat → Nat) (cn : Nat → Nat) (u : Nat → Nat → Int32) (w : Nat → Nat → Int64) (x : Nat → Nat → UInt64) (r : Nat → Nat → Option Nat) (hI : CI ad cn r) (j : Nat) (hj : j < cn 6) (n : Nat) (hn : n ≤ 100) (o : UInt64) : Ct l G cy B yX3_warm cX3_warm 7 (some .double) ({ frames := 2, cells := 0, slots := 0, locals := 44 } : Room) ad (CF cy ad cn u w x r) [.ref (ad 0), .int (nI j), .int (nI n), .double o] (fun v ad' f' => (if ¬ (u (j + 100) 4 = nI 3 ∨ u (j + 100) 4 = nI 2) ∧ dGe o 13855605728582041600 = true ∧ dLe o 4633641066610819072 = true then ∃ t sk sp, warmR (x 8) (x 9) (cn 9) o n (x (j + 100) 1) (u (j + 100) 2) (u (j + 100) 3) t sk sp ∧ v = some (.double t) ∧ ad = ad' ∧ CF cy ad cn (va_up u (j + 100) (upd (upd (u (j + 100)) 2 sk) 3 sp)) w (va_up x (j + 100) (vf_upd (x (j + 100)) 1 t)) r = f' else v = some (.double 13875379345695965184) ∧ ad = ad' ∧ CF cy ad cn u w x r = f')) := by
  refine ct_of (by decide +kernel) (Nat.le_of_ble_eq_true rfl) ?_
  intro p e s m args below meth c X hnm
  have hI0 := hI
  obtain ⟨⟨hc3, hc4, hc6, hc9, hc12, hc14⟩, ⟨h30, h31, h32⟩, hr6, hr12, hr14⟩ := hI0
  refine z_lv (lv' := [(0, .ref (ad 0)), (1, .int (nI j)), (2, .int (nI n)), (3, .double o)]) [0, 1, 2, 3] rfl ?_
  refine z_aload_n X 0 dX3_warm_0 rfl rfl ?_
  refine z_iload_n X 1 dX3_warm_1 rfl rfl ?_
  refine z_callV X (n := 1) (As := [.int (nI j)]) (rest := []) 0 rfl (CF_at (k := 0) rfl rfl rfl rfl rfl) rfl (p_findBale_i l G cy B ad cn u w x r hI j hj) q_194 q_195 q_2 q_24 q_196 (by decide +kernel) ⟨Nat.le_of_ble_eq_true rfl, Nat.le_of_ble_eq_true rfl⟩ rfl rfl (Nat.le_of_ble_eq_true rfl) dX3_warm_2 ⟨Nat.le_of_ble_eq_true rfl, Nat.le_of_ble_eq_true rfl⟩ (fun v ad' f' hp had => ?_)
  obtain ⟨rfl, rfl, rfl⟩ := hp
  refine z_st (st' := [.ref (ad (j + 100))]) rfl ?_
  refine z_astore X (lv' := [(5, .ref (ad (j + 100))), (0, .ref (ad 0)), (1, .int (nI j)), (2, .int (nI n)), (3, .double o)]) dX3_warm_5 (by decide) rfl ?_
  refine z_aload X 0 dX3_warm_7 rfl ?_
  refine z_ifnull X dX3_warm_9 ?_
  refine z_aload X 0 dX3_warm_12 rfl ?_
  refine z_callV X (n := 0) (As := []) (rest := []) (j + 100) rfl (CF_at (k := j + 100) rfl rfl rfl rfl (cAt_b (i := j) (by omega) (by omega))) rfl (b_isGoneOrSold l G cy B ad (CF cy ad cn u w x r) (j + 100) (j + 200) (x (j + 100) 1) (u (j + 100) 2) (u (j + 100) 3) (u (j + 100) 4) (u (j + 100) 5) (u (j + 100) 6) (r (j + 100) 7) (r (j + 100) 8) (w (j + 200)) (CF_at (k := j + 100) rfl rfl rfl rfl (cAt_b (i := j) (by omega) (by omega))) (CF_at (k := j + 200) rfl rfl rfl rfl (cAt_g (i := j) (by omega) (by omega)))) q_238 q_239 q_240 q_30 q_241 (by decide +kernel) ⟨Nat.le_of_ble_eq_true rfl, Nat.le_of_ble_eq_true rfl⟩ rfl rfl (Nat.le_of_ble_eq_true rfl) dX3_warm_14 ⟨Nat.le_of_ble_eq_true rfl, Nat.le_of_ble_eq_true rfl⟩ (fun v ad' f' hp had => ?_)
  obtain ⟨rfl, rfl, rfl⟩ := hp
  refine z_st (st' := [.int (nI (if u (j + 100) 4 = nI 3 ∨ u (j + 100) 4 = nI 2 then 1 else 0))]) rfl ?_
  refine z_if_eqB X (tgt := 24) dX3_warm_17 (by decide) (fun c17 => ?_) (fun c17 => ?_)
  · refine z_iload_n X 3 dX3_warm_24 rfl rfl ?_
    refine z_i2lN X (by omega) dX3_warm_25 ?_
    refine z_lconst X (v := 0) dX3_warm_26 rfl ?_
    refine z_ldc2 X dX3_warm_27 q_243 ?_
    refine z_callS X (n := 3) (As := [.long (lN n), .long 0, .long 100]) (rest := []) (c_X3_isWithin l G cy B ad (CF cy ad cn u w x r) ((lN n)) 0 100) q_142 q_143 q_24 q_144 (by decide +kernel) ⟨Nat.le_of_ble_eq_true rfl, Nat.le_of_ble_eq_true rfl⟩ rfl rfl (Nat.le_of_ble_eq_true rfl) dX3_warm_30 ⟨Nat.le_of_ble_eq_true rfl, Nat.le_of_ble_eq_true rfl⟩ (fun v ad' f' hp had => ?_)
    obtain ⟨rfl, rfl, rfl⟩ := hp
    refine z_st (st' := [.int (nI (if 0 ≤ (lN n) ∧ (lN n) ≤ 100 then 1 else 0))]) rfl ?_
    refine z_if_eqB X (tgt := 49) dX3_warm_33 (by decide) (fun c33 => by exfalso; exact c33 ⟨by rw [show (0 : Int64) = lN 0 from rfl]; exact (lN_le (by omega) (by omega)).mpr (by omega), by rw [show (100 : Int64) = lN 100 from rfl]; exact (lN_le (by omega) (by omega)).mpr (by omega)⟩) (fun c33 => ?_)
    refine z_dload_n X 4 dX3_warm_36 rfl rfl ?_
    refine z_ldc2d X dX3_warm_37 q_231 ?_
    refine z_ldc2d X dX3_warm_40 q_244 ?_
    refine z_callS X (n := 3) (As := [.double o, .double 13855605728582041600, .double 4633641066610819072]) (rest := []) (c_X3_isBetween l G cy B ad (CF cy ad cn u w x r) o 13855605728582041600 4633641066610819072) q_221 q_222 q_24 q_223 (by decide +kernel) ⟨Nat.le_of_ble_eq_true rfl, Nat.le_of_ble_eq_true rfl⟩ rfl rfl (Nat.le_of_ble_eq_true rfl) dX3_warm_43 ⟨Nat.le_of_ble_eq_true rfl, Nat.le_of_ble_eq_true rfl⟩ (fun v ad' f' hp had => ?_)
    obtain ⟨rfl, rfl, rfl⟩ := hp
    refine z_st (st' := [.int (nI (if dGe o 13855605728582041600 = true ∧ dLe o 4633641066610819072 = true then 1 else 0))]) rfl ?_
    refine z_if_neB X (tgt := 53) dX3_warm_46 (by decide) (fun c46 => ?_) (fun c46 => ?_)
    · refine z_iconst X (v := nI 0) dX3_warm_53 (by decide) ?_
      refine z_istore X (lv' := [(6, .int (nI 0)), (5, .ref (ad (j + 100))), (0, .ref (ad 0)), (1, .int (nI j)), (2, .int (nI n)), (3, .double o)]) dX3_warm_54 (by decide) rfl ?_
      refine z_lv (lv' := [(0, .ref (ad 0)), (2, .int (nI n)), (3, .double o), (5, .ref (ad (j + 100))), (6, .int (nI 0))]) [2, 4, 5, 1, 0] rfl ?_
      have lp56 : ∀ (fu56 : Nat) (i : Nat) (t : UInt64) (sk sp : Int32), (i ≤ n) → (warmR (x 8) (x 9) (cn 9) o i (x (j + 100) 1) (u (j + 100) 2) (u (j + 100) 3) t sk sp) → n + 1 ≤ i + fu56 → Z G B 7 ad (CF cy ad cn u w x r) p l e ({ frames := 2, cells := 0, slots := 0, locals := 44 } : Room) s m args below meth c (zEnd G B ad (CF cy ad cn u w x r) below args s ({ frames := 2, cells := 0, slots := 0, locals := 44 } : Room) (fun v ad' f' => (if ¬ (u (j + 100) 4 = nI 3 ∨ u (j + 100) 4 = nI 2) ∧ dGe o 13855605728582041600 = true ∧ dLe o 4633641066610819072 = true then ∃ t sk sp, warmR (x 8) (x 9) (cn 9) o n (x (j + 100) 1) (u (j + 100) 2) (u (j + 100) 3) t sk sp ∧ v = some (.double t) ∧ ad = ad' ∧ CF cy ad cn (va_up u (j + 100) (upd (upd (u (j + 100)) 2 sk) 3 sp)) w (va_up x (j + 100) (vf_upd (x (j + 100)) 1 t)) r = f' else v = some (.double 13875379345695965184) ∧ ad = ad' ∧ CF cy ad cn u w x r = f'))) ad (CF cy ad cn (va_up u (j + 100) (upd (upd (u (j + 100)) 2 sk) 3 sp)) w (va_up x (j + 100) (vf_upd (x (j + 100)) 1 t)) r) 0 0 56 [(0, .ref (ad 0)), (2, .int (nI n)), (3, .double o), (5, .ref (ad (j + 100))), (6, .int (nI i))] [] := by
        intro fu56
        induction fu56 with
        | zero => intro i t sk sp hi hw hm56; exact absurd hm56 (by omega)
        | succ fu56 ih56 =>
          intro i t sk sp hi hw hm56
          refine z_iload X 4 dX3_warm_56 rfl ?_
          refine z_iload_n X 1 dX3_warm_58 rfl rfl ?_
          refine z_icmp_geN X (tgt := 83) (by omega) (by omega) dX3_warm_59 (by decide) (fun c59 => ?_) (fun c59 => ?_)
          · have e9 : i = n := by omega
            rw [e9] at hw
            refine z_aload X 3 dX3_warm_83 rfl ?_
            refine z_getN X (v := .double t) (j + 100) 1 wa_X0 rfl rfl (CF_at (k := j + 100) va_same rfl va_same rfl (cAt_b (i := j) (by omega) (by omega))) (by decide) (List.mem_of_getElem? (i := 0) rfl) rfl rfl dX3_warm_85 ?_
            refine z_dret X (Nat.le_of_ble_eq_true rfl) (Nat.le_of_ble_eq_true rfl) ?_ dX3_warm_88
            rw [if_pos ⟨c17, c46⟩]
            exact ⟨t, sk, sp, hw, rfl, rfl, rfl⟩
          · refine z_aload X 3 dX3_warm_62 rfl ?_
            refine z_aload_n X 0 dX3_warm_64 rfl rfl ?_
            refine z_aload X 3 dX3_warm_65 rfl ?_
            refine z_getN X (v := .double t) (j + 100) 1 wa_X0 rfl rfl (CF_at (k := j + 100) va_same rfl va_same rfl (cAt_b (i := j) (by omega) (by omega))) (by decide) (List.mem_of_getElem? (i := 0) rfl) rfl rfl dX3_warm_67 ?_
            refine z_callV X (n := 1) (As := [.double t]) (rest := [.ref (ad (j + 100))]) 0 rfl (CF_at (k := 0) (va_ne (by omega)) rfl (va_ne (by omega)) rfl rfl) rfl (p_gainAt l G cy B ad cn (va_up u (j + 100) (upd (upd (u (j + 100)) 2 sk) 3 sp)) w (va_up x (j + 100) (vf_upd (x (j + 100)) 1 t)) r hI t) q_245 q_246 q_3 q_24 q_247 (by decide +kernel) ⟨Nat.le_of_ble_eq_true rfl, Nat.le_of_ble_eq_true rfl⟩ rfl rfl (Nat.le_of_ble_eq_true rfl) dX3_warm_70 ⟨Nat.le_of_ble_eq_true rfl, Nat.le_of_ble_eq_true rfl⟩ (fun v ad' f' hp had => ?_)
            obtain ⟨rfl, rfl, rfl⟩ := hp
            refine z_st (st' := [.double (gainL (x 8) (x 9) t (cn 9)), .ref (ad (j + 100))]) rfl ?_
            refine z_dload_n X 2 dX3_warm_73 rfl rfl ?_
            refine z_callV X (n := 2) (As := [.double (gainL (x 8) (x 9) t (cn 9)), .double o]) (rest := []) (j + 100) rfl (CF_at (k := j + 100) va_same rfl va_same rfl (cAt_b (i := j) (by omega) (by omega))) rfl (b_passHour l G cy B ad (CF cy ad cn (va_up u (j + 100) (upd (upd (u (j + 100)) 2 sk) 3 sp)) w (va_up x (j + 100) (vf_upd (x (j + 100)) 1 t)) r) (j + 100) (j + 200) t sk sp (u (j + 100) 4) (u (j + 100) 5) (u (j + 100) 6) (r (j + 100) 7) (r (j + 100) 8) (w (j + 200)) (CF_at (k := j + 100) va_same rfl va_same rfl (cAt_b (i := j) (by omega) (by omega))) (CF_at (k := j + 200) (va_ne (by omega)) rfl (va_ne (by omega)) rfl (cAt_g (i := j) (by omega) (by omega))) (by omega) (gainL (x 8) (x 9) t (cn 9)) o) q_248 q_249 q_250 q_30 q_251 (by decide +kernel) ⟨Nat.le_of_ble_eq_true rfl, Nat.le_of_ble_eq_true rfl⟩ rfl rfl (Nat.le_of_ble_eq_true rfl) dX3_warm_74 ⟨Nat.le_of_ble_eq_true rfl, Nat.le_of_ble_eq_true rfl⟩ (fun v ad' f' hp had => ?_)
            obtain ⟨rfl, rfl, t9, hst9, rfl⟩ := hp
            refine z_st (st' := []) rfl ?_
            obtain ⟨sk9, hsk9⟩ : ∃ z, z = (if dGe t9 4633641066610819072 = true then sk + nI 1 else nI 0) := ⟨_, rfl⟩
            obtain ⟨sp9, hsp9⟩ : ∃ z, z = (if sp < sk9 then sk9 else sp) := ⟨_, rfl⟩
            rw [← hsk9, ← hsp9]
            refine z_f (CF_ux (k := j + 100) (upd (upd (u (j + 100)) 2 sk9) 3 sp9) (vf_upd (x (j + 100)) 1 t9) (cAt_b (i := j) (by omega) (by omega))) ?_
            refine z_f (show CF cy ad cn (va_up (va_up u (j + 100) (upd (upd (u (j + 100)) 2 sk) 3 sp)) (j + 100) (upd (upd (u (j + 100)) 2 sk9) 3 sp9)) w (va_up (va_up x (j + 100) (vf_upd (x (j + 100)) 1 t)) (j + 100) (vf_upd (x (j + 100)) 1 t9)) r = CF cy ad cn (va_up u (j + 100) (upd (upd (u (j + 100)) 2 sk9) 3 sp9)) w (va_up x (j + 100) (vf_upd (x (j + 100)) 1 t9)) r from by rw [up_up, up_up]) ?_
            refine z_iincN X 4 (k := 1) (lv' := [(6, .int (nI (i + 1))), (0, .ref (ad 0)), (2, .int (nI n)), (3, .double o), (5, .ref (ad (j + 100)))]) dX3_warm_77 rfl (by decide) (by decide) rfl ?_
            refine z_goto X (tgt := 56) dX3_warm_80 (by decide) ?_
            refine z_lv (lv' := [(0, .ref (ad 0)), (2, .int (nI n)), (3, .double o), (5, .ref (ad (j + 100))), (6, .int (nI (i + 1)))]) [1, 2, 3, 4, 0] rfl ?_
            exact ih56 (i + 1) t9 sk9 sp9 (by omega) (by exact ⟨t, sk, sp, hw, hst9, hsk9, hsp9⟩) (by omega)
      refine z_f (show CF cy ad cn u w x r = CF cy ad cn (va_up u (j + 100) (upd (upd (u (j + 100)) 2 (u (j + 100) 2)) 3 (u (j + 100) 3))) w (va_up x (j + 100) (vf_upd (x (j + 100)) 1 (x (j + 100) 1))) r from by rw [upd_self, upd_self, vfu_self, up_self, up_self]) ?_
      exact lp56 (n + 1) 0 (x (j + 100) 1) (u (j + 100) 2) (u (j + 100) 3) (by omega) ⟨rfl, rfl, rfl⟩ (by omega)
    · refine z_ldc2d X dX3_warm_49 q_242 ?_
      refine z_dret X (Nat.le_of_ble_eq_true rfl) (Nat.le_of_ble_eq_true rfl) ?_ dX3_warm_52
      rw [if_neg (fun h => c46 h.2)]
      exact ⟨rfl, rfl, rfl⟩
  · refine z_ldc2d X dX3_warm_20 q_242 ?_
    refine z_dret X (Nat.le_of_ble_eq_true rfl) (Nat.le_of_ble_eq_true rfl) ?_ dX3_warm_23
    rw [if_neg (fun h => h.1 c17)]
    exact ⟨rfl, rfl, rfl⟩
set_option maxHeartbeats 4000000 in
set_option maxRecDepth 100000 in
theorem p_warm_x (l : Launch) (G : va_G) (cy : Nat → ClassId) (B : Nat) (ad : Nat → Nat) (cn : Nat → Nat) (u : Nat → Nat → Int32) (w : Nat → Nat → Int64) (x : Nat → Nat → UInt64) (r : Nat → Nat → Option Nat) (hI : CI ad cn r) (j : Nat) (hj : j < cn 6) (h : Int32) (hh : ¬ (0 ≤ h.toInt64 ∧ h.toInt64 ≤ 100)) (o : UInt64) : Ct l G cy B yX3_warm cX3_warm 7 (some .double) ({ frames := 1, cells := 0, slots := 0, locals := 25 } : Room) ad (CF cy ad cn u w x r) [.ref (ad 0), .int (nI j), .int h, .double o] (fun v ad' f' => v = some (.double 13875379345695965184) ∧ ad = ad' ∧ CF cy ad cn u w x r = f') := by
  refine ct_of (by decide +kernel) (Nat.le_of_ble_eq_true rfl) ?_
  intro p e s m args below meth c X hnm
  have hI0 := hI
  obtain ⟨⟨hc3, hc4, hc6, hc9, hc12, hc14⟩, ⟨h30, h31, h32⟩, hr6, hr12, hr14⟩ := hI0
  refine z_lv (lv' := [(0, .ref (ad 0)), (1, .int (nI j)), (2, .int h), (3, .double o)]) [0, 1, 2, 3] rfl ?_
  refine z_aload_n X 0 dX3_warm_0 rfl rfl ?_
  refine z_iload_n X 1 dX3_warm_1 rfl rfl ?_
  refine z_callV X (n := 1) (As := [.int (nI j)]) (rest := []) 0 rfl (CF_at (k := 0) rfl rfl rfl rfl rfl) rfl (p_findBale_i l G cy B ad cn u w x r hI j hj) q_194 q_195 q_2 q_24 q_196 (by decide +kernel) ⟨Nat.le_of_ble_eq_true rfl, Nat.le_of_ble_eq_true rfl⟩ rfl rfl (Nat.le_of_ble_eq_true rfl) dX3_warm_2 ⟨Nat.le_of_ble_eq_true rfl, Nat.le_of_ble_eq_true rfl⟩ (fun v ad' f' hp had => ?_)
  obtain ⟨rfl, rfl, rfl⟩ := hp
  refine z_st (st' := [.ref (ad (j + 100))]) rfl ?_
  refine z_astore X (lv' := [(5, .ref (ad (j + 100))), (0, .ref (ad 0)), (1, .int (nI j)), (2, .int h), (3, .double o)]) dX3_warm_5 (by decide) rfl ?_
  refine z_aload X 0 dX3_warm_7 rfl ?_
  refine z_ifnull X dX3_warm_9 ?_
  refine z_aload X 0 dX3_warm_12 rfl ?_
  refine z_callV X (n := 0) (As := []) (rest := []) (j + 100) rfl (CF_at (k := j + 100) rfl rfl rfl rfl (cAt_b (i := j) (by omega) (by omega))) rfl (b_isGoneOrSold l G cy B ad (CF cy ad cn u w x r) (j + 100) (j + 200) (x (j + 100) 1) (u (j + 100) 2) (u (j + 100) 3) (u (j + 100) 4) (u (j + 100) 5) (u (j + 100) 6) (r (j + 100) 7) (r (j + 100) 8) (w (j + 200)) (CF_at (k := j + 100) rfl rfl rfl rfl (cAt_b (i := j) (by omega) (by omega))) (CF_at (k := j + 200) rfl rfl rfl rfl (cAt_g (i := j) (by omega) (by omega)))) q_238 q_239 q_240 q_30 q_241 (by decide +kernel) ⟨Nat.le_of_ble_eq_true rfl, Nat.le_of_ble_eq_true rfl⟩ rfl rfl (Nat.le_of_ble_eq_true rfl) dX3_warm_14 ⟨Nat.le_of_ble_eq_true rfl, Nat.le_of_ble_eq_true rfl⟩ (fun v ad' f' hp had => ?_)
  obtain ⟨rfl, rfl, rfl⟩ := hp
  refine z_st (st' := [.int (nI (if u (j + 100) 4 = nI 3 ∨ u (j + 100) 4 = nI 2 then 1 else 0))]) rfl ?_
  refine z_if_eqB X (tgt := 24) dX3_warm_17 (by decide) (fun c17 => ?_) (fun c17 => ?_)
  · refine z_iload_n X 3 dX3_warm_24 rfl rfl ?_
    refine z_i2l X dX3_warm_25 ?_
    refine z_lconst X (v := 0) dX3_warm_26 rfl ?_
    refine z_ldc2 X dX3_warm_27 q_243 ?_
    refine z_callS X (n := 3) (As := [.long h.toInt64, .long 0, .long 100]) (rest := []) (c_X3_isWithin l G cy B ad (CF cy ad cn u w x r) h.toInt64 0 100) q_142 q_143 q_24 q_144 (by decide +kernel) ⟨Nat.le_of_ble_eq_true rfl, Nat.le_of_ble_eq_true rfl⟩ rfl rfl (Nat.le_of_ble_eq_true rfl) dX3_warm_30 ⟨Nat.le_of_ble_eq_true rfl, Nat.le_of_ble_eq_true rfl⟩ (fun v ad' f' hp had => ?_)
    obtain ⟨rfl, rfl, rfl⟩ := hp
    refine z_st (st' := [.int (nI (if 0 ≤ h.toInt64 ∧ h.toInt64 ≤ 100 then 1 else 0))]) rfl ?_
    refine z_if_eqB X (tgt := 49) dX3_warm_33 (by decide) (fun c33 => ?_) (fun c33 => by exfalso; exact hh c33)
    refine z_ldc2d X dX3_warm_49 q_242 ?_
    refine z_dret X (Nat.le_of_ble_eq_true rfl) (Nat.le_of_ble_eq_true rfl) ?_ dX3_warm_52
    exact ⟨rfl, rfl, rfl⟩
  · refine z_ldc2d X dX3_warm_20 q_242 ?_
    refine z_dret X (Nat.le_of_ble_eq_true rfl) (Nat.le_of_ble_eq_true rfl) ?_ dX3_warm_23
    exact ⟨rfl, rfl, rfl⟩
set_option maxHeartbeats 4000000 in
set_option maxRecDepth 100000 in
theorem p_warm_o (l : Launch) (G : va_G) (cy : Nat → ClassId) (B : Nat) (ad : Nat → Nat) (cn : Nat → Nat) (u : Nat → Nat → Int32) (w : Nat → Nat → Int64) (x : Nat → Nat → UInt64) (r : Nat → Nat → Option Nat) (hI : CI ad cn r) (b : Int32) (hb : ¬ (¬ b < 0 ∧ ¬ nI (cn 6) ≤ b)) (h : Int32) (o : UInt64) : Ct l G cy B yX3_warm cX3_warm 7 (some .double) ({ frames := 1, cells := 0, slots := 0, locals := 21 } : Room) ad (CF cy ad cn u w x r) [.ref (ad 0), .int b, .int h, .double o] (fun v ad' f' => v = some (.double 13875379345695965184) ∧ ad = ad' ∧ CF cy ad cn u w x r = f') := by
  refine ct_of (by decide +kernel) (Nat.le_of_ble_eq_true rfl) ?_
  intro p e s m args below meth c X hnm
  have hI0 := hI
  obtain ⟨⟨hc3, hc4, hc6, hc9, hc12, hc14⟩, ⟨h30, h31, h32⟩, hr6, hr12, hr14⟩ := hI0
  refine z_lv (lv' := [(0, .ref (ad 0)), (1, .int b), (2, .int h), (3, .double o)]) [0, 1, 2, 3] rfl ?_
  refine z_aload_n X 0 dX3_warm_0 rfl rfl ?_
  refine z_iload_n X 1 dX3_warm_1 rfl rfl ?_
  refine z_callV X (n := 1) (As := [.int b]) (rest := []) 0 rfl (CF_at (k := 0) rfl rfl rfl rfl rfl) rfl (p_findBale_o l G cy B ad cn u w x r hI b hb) q_194 q_195 q_2 q_24 q_196 (by decide +kernel) ⟨Nat.le_of_ble_eq_true rfl, Nat.le_of_ble_eq_true rfl⟩ rfl rfl (Nat.le_of_ble_eq_true rfl) dX3_warm_2 ⟨Nat.le_of_ble_eq_true rfl, Nat.le_of_ble_eq_true rfl⟩ (fun v ad' f' hp had => ?_)
  obtain ⟨rfl, rfl, rfl⟩ := hp
  refine z_st (st' := [.null]) rfl ?_
  refine z_astoreN X (lv' := [(5, .null), (0, .ref (ad 0)), (1, .int b), (2, .int h), (3, .double o)]) dX3_warm_5 (by decide) rfl ?_
  refine z_aloadN X 0 dX3_warm_7 rfl ?_
  refine z_ifnullN X (tgt := 20) dX3_warm_9 (by decide) ?_
  refine z_ldc2d X dX3_warm_20 q_242 ?_
  refine z_dret X (Nat.le_of_ble_eq_true rfl) (Nat.le_of_ble_eq_true rfl) ?_ dX3_warm_23
  exact ⟨rfl, rfl, rfl⟩
set_option maxHeartbeats 4000000 in
set_option maxRecDepth 100000 in
theorem p_put_i (l : Launch) (G : va_G) (cy : Nat → ClassId) (B : Nat) (ad : Nat → Nat) (cn : Nat → Nat) (u : Nat → Nat → Int32) (w : Nat → Nat → Int64) (x : Nat → Nat → UInt64) (r : Nat → Nat → Option Nat) (hI : CI ad cn r) (j : Nat) (hj : j < cn 6) (st : Nat) (hs0 : st < cn 12) (hst : ∀ b, b < cn 6 → u (b + 100) 4 = nI 1 → ∃ s9, s9 < cn 12 ∧ u (b + 100) 5 = nI s9) : Ct l G cy B yX3_put cX3_put 5 (some .int) ({ frames := 3, cells := 0, slots := 0, locals := 71 } : Room) ad (CF cy ad cn u w x r) [.ref (ad 0), .int (nI j), .int (nI st)] (fun v ad' f' => v = some (.int (nI (putC cn u w x j st))) ∧ ad = ad' ∧ (if putC cn u w x j st = 0 then CF cy ad cn (va_up u (j + 100) (upd (upd (u (j + 100)) 4 (nI 1)) 5 (nI st))) w x r else CF cy ad cn u w x r) = f') := by
  refine ct_of (by decide +kernel) (Nat.le_of_ble_eq_true rfl) ?_
  intro p e s m args below meth c X hnm
  have hI0 := hI
  obtain ⟨⟨hc3, hc4, hc6, hc9, hc12, hc14⟩, ⟨h30, h31, h32⟩, hr6, hr12, hr14⟩ := hI0
  refine z_lv (lv' := [(0, .ref (ad 0)), (1, .int (nI j)), (2, .int (nI st))]) [0, 1, 2] rfl ?_
  refine z_aload_n X 0 dX3_put_0 rfl rfl ?_
  refine z_iload_n X 1 dX3_put_1 rfl rfl ?_
  refine z_callV X (n := 1) (As := [.int (nI j)]) (rest := []) 0 rfl (CF_at (k := 0) rfl rfl rfl rfl rfl) rfl (p_findBale_i l G cy B ad cn u w x r hI j hj) q_194 q_195 q_2 q_24 q_196 (by decide +kernel) ⟨Nat.le_of_ble_eq_true rfl, Nat.le_of_ble_eq_true rfl⟩ rfl rfl (Nat.le_of_ble_eq_true rfl) dX3_put_2 ⟨Nat.le_of_ble_eq_true rfl, Nat.le_of_ble_eq_true rfl⟩ (fun v ad' f' hp had => ?_)
  obtain ⟨rfl, rfl, rfl⟩ := hp
  refine z_st (st' := [.ref (ad (j + 100))]) rfl ?_
  refine z_astore_n X (lv' := [(3, .ref (ad (j + 100))), (0, .ref (ad 0)), (1, .int (nI j)), (2, .int (nI st))]) dX3_put_5 rfl (by decide) rfl ?_
  refine z_aload_n X 1 dX3_put_6 rfl rfl ?_
  refine z_iload_n X 3 dX3_put_7 rfl rfl ?_
  refine z_callV X (n := 1) (As := [.int (nI st)]) (rest := []) 0 rfl (CF_at (k := 0) rfl rfl rfl rfl rfl) rfl (p_findStack_i l G cy B ad cn u w x r hI st hs0) q_294 q_295 q_5 q_24 q_296 (by decide +kernel) ⟨Nat.le_of_ble_eq_true rfl, Nat.le_of_ble_eq_true rfl⟩ rfl rfl (Nat.le_of_ble_eq_true rfl) dX3_put_8 ⟨Nat.le_of_ble_eq_true rfl, Nat.le_of_ble_eq_true rfl⟩ (fun v ad' f' hp had => ?_)
  obtain ⟨rfl, rfl, rfl⟩ := hp
  refine z_st (st' := [.ref (ad (st + 300))]) rfl ?_
  refine z_astore X (lv' := [(4, .ref (ad (st + 300))), (3, .ref (ad (j + 100))), (0, .ref (ad 0)), (1, .int (nI j)), (2, .int (nI st))]) dX3_put_11 (by decide) rfl ?_
  refine z_aload_n X 1 dX3_put_13 rfl rfl ?_
  refine z_ifnull X dX3_put_14 ?_
  refine z_aload X 0 dX3_put_17 rfl ?_
  refine z_ifnonnull X (tgt := 24) dX3_put_19 (by decide) ?_
  refine z_aload_n X 1 dX3_put_24 rfl rfl ?_
  refine z_getN X (v := .int (u (j + 100) 4)) (j + 100) 4 wa_X0 rfl rfl (CF_at (k := j + 100) rfl rfl rfl rfl (cAt_b (i := j) (by omega) (by omega))) (by decide) (List.mem_of_getElem? (i := 2) rfl) rfl rfl dX3_put_25 ?_
  refine z_if_eq X (tgt := 33) dX3_put_28 (by decide) (fun c28 => ?_) (fun c28 => ?_)
  · refine z_aload_n X 2 dX3_put_33 rfl rfl ?_
    refine z_iload_n X 4 dX3_put_34 rfl rfl ?_
    refine z_callV X (n := 1) (As := [.int (nI st)]) (rest := []) 0 rfl (CF_at (k := 0) rfl rfl rfl rfl rfl) rfl (p_balesOn l G cy B ad cn u w x r hI (nI st)) q_297 q_298 q_6 q_24 q_299 (by decide +kernel) ⟨Nat.le_of_ble_eq_true rfl, Nat.le_of_ble_eq_true rfl⟩ rfl rfl (Nat.le_of_ble_eq_true rfl) dX3_put_35 ⟨Nat.le_of_ble_eq_true rfl, Nat.le_of_ble_eq_true rfl⟩ (fun v ad' f' hp had => ?_)
    obtain ⟨rfl, rfl, rfl⟩ := hp
    refine z_st (st' := [.int (nI (cntN (fun b => decide (onC u (nI st) b)) (cn 6)))]) rfl ?_
    refine z_aload X 0 dX3_put_38 rfl ?_
    refine z_getN X (v := .int (u (st + 300) 1)) (st + 300) 1 wa_X2 rfl rfl (CF_at (k := st + 300) rfl rfl rfl rfl (cAt_s (i := st) (by omega) (by omega))) (by decide) (List.mem_of_getElem? (i := 8) rfl) rfl rfl dX3_put_40 ?_
    refine z_icmp_lt X (tgt := 48) dX3_put_43 (by decide) (fun c43 => ?_) (fun c43 => ?_)
    · refine z_aload_n X 1 dX3_put_48 rfl rfl ?_
      refine z_callV X (n := 0) (As := []) (rest := []) (j + 100) rfl (CF_at (k := j + 100) rfl rfl rfl rfl (cAt_b (i := j) (by omega) (by omega))) rfl (b_isHot l G cy B ad (CF cy ad cn u w x r) (j + 100) (j + 200) (x (j + 100) 1) (u (j + 100) 2) (u (j + 100) 3) (u (j + 100) 4) (u (j + 100) 5) (u (j + 100) 6) (r (j + 100) 7) (r (j + 100) 8) (w (j + 200)) (CF_at (k := j + 100) rfl rfl rfl rfl (cAt_b (i := j) (by omega) (by omega))) (CF_at (k := j + 200) rfl rfl rfl rfl (cAt_g (i := j) (by omega) (by omega)))) q_304 q_254 q_255 q_30 q_256 (by decide +kernel) ⟨Nat.le_of_ble_eq_true rfl, Nat.le_of_ble_eq_true rfl⟩ rfl rfl (Nat.le_of_ble_eq_true rfl) dX3_put_49 ⟨Nat.le_of_ble_eq_true rfl, Nat.le_of_ble_eq_true rfl⟩ (fun v ad' f' hp had => ?_)
      obtain ⟨rfl, rfl, rfl⟩ := hp
      refine z_st (st' := [.int (nI (if dGe (x (j + 100) 1) 4633641066610819072 = true then 1 else 0))]) rfl ?_
      refine z_if_eqB X (tgt := 57) dX3_put_52 (by decide) (fun c52 => ?_) (fun c52 => ?_)
      · refine z_aload_n X 2 dX3_put_57 rfl rfl ?_
        refine z_iload_n X 4 dX3_put_58 rfl rfl ?_
        refine z_aload_n X 1 dX3_put_59 rfl rfl ?_
        refine z_callV X (n := 0) (As := []) (rest := [.int (nI st), .ref (ad 0)]) (j + 100) rfl (CF_at (k := j + 100) rfl rfl rfl rfl (cAt_b (i := j) (by omega) (by omega))) rfl (b_mainKind l G cy B ad (CF cy ad cn u w x r) (j + 100) (j + 200) (x (j + 100) 1) (u (j + 100) 2) (u (j + 100) 3) (u (j + 100) 4) (u (j + 100) 5) (u (j + 100) 6) (r (j + 100) 7) (r (j + 100) 8) (w (j + 200)) (CF_at (k := j + 100) rfl rfl rfl rfl (cAt_b (i := j) (by omega) (by omega))) (CF_at (k := j + 200) rfl rfl rfl rfl (cAt_g (i := j) (by omega) (by omega)))) q_305 q_306 q_307 q_30 q_308 (by decide +kernel) ⟨Nat.le_of_ble_eq_true rfl, Nat.le_of_ble_eq_true rfl⟩ rfl rfl (Nat.le_of_ble_eq_true rfl) dX3_put_60 ⟨Nat.le_of_ble_eq_true rfl, Nat.le_of_ble_eq_true rfl⟩ (fun v ad' f' hp had => ?_)
        obtain ⟨rfl, rfl, rfl⟩ := hp
        refine z_st (st' := [.int (nI (mainL (w (j + 200)) 3)), .int (nI st), .ref (ad 0)]) rfl ?_
        refine z_callV X (n := 2) (As := [.int (nI st), .int (nI (mainL (w (j + 200)) 3))]) (rest := []) 0 rfl (CF_at (k := 0) rfl rfl rfl rfl rfl) rfl (p_bearsOther l G cy B ad cn u w x r hI (nI st) (mainL (w (j + 200)) 3) (mainL_le _ 3)) q_309 q_310 q_7 q_24 q_311 (by decide +kernel) ⟨Nat.le_of_ble_eq_true rfl, Nat.le_of_ble_eq_true rfl⟩ rfl rfl (Nat.le_of_ble_eq_true rfl) dX3_put_63 ⟨Nat.le_of_ble_eq_true rfl, Nat.le_of_ble_eq_true rfl⟩ (fun v ad' f' hp had => ?_)
        obtain ⟨rfl, rfl, rfl⟩ := hp
        refine z_st (st' := [.int (nI (if anyB (fun b => decide (othC u w (nI st) (mainL (w (j + 200)) 3) b)) (cn 6) = true then 1 else 0))]) rfl ?_
        refine z_if_eqB X (tgt := 71) dX3_put_66 (by decide) (fun c66 => ?_) (fun c66 => ?_)
        · refine z_aload_n X 2 dX3_put_71 rfl rfl ?_
          refine z_iload_n X 4 dX3_put_72 rfl rfl ?_
          refine z_callV X (n := 1) (As := [.int (nI st)]) (rest := []) 0 rfl (CF_at (k := 0) rfl rfl rfl rfl rfl) rfl (p_gramsClose l G cy B ad cn u w x r hI st hs0 hst) q_312 q_313 q_8 q_24 q_314 (by decide +kernel) ⟨Nat.le_of_ble_eq_true rfl, Nat.le_of_ble_eq_true rfl⟩ rfl rfl (Nat.le_of_ble_eq_true rfl) dX3_put_73 ⟨Nat.le_of_ble_eq_true rfl, Nat.le_of_ble_eq_true rfl⟩ (fun v ad' f' hp had => ?_)
          obtain ⟨rfl, rfl, rfl⟩ := hp
          refine z_st (st' := [.long (sumL (fun b => if nearC u st b then sumL (w (b + 200)) 4 else 0) (cn 6))]) rfl ?_
          refine z_aload_n X 1 dX3_put_76 rfl rfl ?_
          refine z_callV X (n := 0) (As := []) (rest := [.long (sumL (fun b => if nearC u st b then sumL (w (b + 200)) 4 else 0) (cn 6))]) (j + 100) rfl (CF_at (k := j + 100) rfl rfl rfl rfl (cAt_b (i := j) (by omega) (by omega))) rfl (b_totalGrams l G cy B ad (CF cy ad cn u w x r) (j + 100) (j + 200) (x (j + 100) 1) (u (j + 100) 2) (u (j + 100) 3) (u (j + 100) 4) (u (j + 100) 5) (u (j + 100) 6) (r (j + 100) 7) (r (j + 100) 8) (w (j + 200)) (CF_at (k := j + 100) rfl rfl rfl rfl (cAt_b (i := j) (by omega) (by omega))) (CF_at (k := j + 200) rfl rfl rfl rfl (cAt_g (i := j) (by omega) (by omega)))) q_210 q_211 q_212 q_30 q_213 (by decide +kernel) ⟨Nat.le_of_ble_eq_true rfl, Nat.le_of_ble_eq_true rfl⟩ rfl rfl (Nat.le_of_ble_eq_true rfl) dX3_put_77 ⟨Nat.le_of_ble_eq_true rfl, Nat.le_of_ble_eq_true rfl⟩ (fun v ad' f' hp had => ?_)
          obtain ⟨rfl, rfl, rfl⟩ := hp
          refine z_st (st' := [.long (sumL (w (j + 200)) 4), .long (sumL (fun b => if nearC u st b then sumL (w (b + 200)) 4 else 0) (cn 6))]) rfl ?_
          refine z_ladd X dX3_put_80 ?_
          refine z_ldc2 X dX3_put_81 q_145 ?_
          refine z_lcmp_le X (tgt := 91) dX3_put_84 dX3_put_85 (by decide) (fun c84 => ?_) (fun c84 => ?_)
          · refine z_aload_n X 1 dX3_put_91 rfl rfl ?_
            refine z_iconst X (v := nI 1) dX3_put_92 (by decide) ?_
            refine z_putN X (ty := .int) (j + 100) 4 wa_X0 tyX0 tyX0_ok nmX0 rfl rfl (CF_at (k := j + 100) rfl rfl rfl rfl (cAt_b (i := j) (by omega) (by omega))) (by decide) (List.mem_of_getElem? (i := 2) rfl) rfl rfl (by decide +kernel) rfl rfl (Nat.le_of_ble_eq_true rfl) dX3_put_93 ?_
            refine z_f (CFs_u (k := j + 100) (upd (u (j + 100)) 4 (nI 1)) rfl rfl rfl (cAt_b (i := j) (by omega) (by omega))) ?_
            refine z_aload_n X 1 dX3_put_96 rfl rfl ?_
            refine z_iload_n X 4 dX3_put_97 rfl rfl ?_
            refine z_putN X (ty := .int) (j + 100) 5 wa_X0 tyX0 tyX0_ok nmX0 rfl rfl (CF_at (k := j + 100) va_same rfl rfl rfl (cAt_b (i := j) (by omega) (by omega))) (by decide) (List.mem_of_getElem? (i := 3) rfl) rfl rfl (by decide +kernel) rfl rfl (Nat.le_of_ble_eq_true rfl) dX3_put_98 ?_
            refine z_f (CFs_u (k := j + 100) (upd (upd (u (j + 100)) 4 (nI 1)) 5 (nI st)) rfl rfl rfl (cAt_b (i := j) (by omega) (by omega))) ?_
            refine z_f (congrArg (fun z => CF cy ad cn z w x r) (show va_up (va_up u (j + 100) (upd (u (j + 100)) 4 (nI 1))) (j + 100) (upd (upd (u (j + 100)) 4 (nI 1)) 5 (nI st)) = va_up u (j + 100) (upd (upd (u (j + 100)) 4 (nI 1)) 5 (nI st)) from by funext z9; simp only [va_up]; (repeat' split) <;> first | rfl | omega | simp_all)) ?_
            refine z_iconst X (v := nI 0) dX3_put_101 (by decide) ?_
            refine z_iret X (Nat.le_of_ble_eq_true rfl) (Nat.le_of_ble_eq_true rfl) ?_ dX3_put_102
            have h9 : putC cn u w x j st = 0 := by unfold putC; rw [if_neg (fun h => h c28), if_neg (fun h => h c43), if_neg c52, if_neg c66, if_neg (fun h => h c84)]
            exact ⟨by rw [h9], rfl, by rw [h9]; exact if_pos rfl⟩
          · refine z_bipush X (v := nI 6) dX3_put_88 (by decide) ?_
            refine z_iret X (Nat.le_of_ble_eq_true rfl) (Nat.le_of_ble_eq_true rfl) ?_ dX3_put_90
            have h9 : putC cn u w x j st = 6 := by unfold putC; rw [if_neg (fun h => h c28), if_neg (fun h => h c43), if_neg c52, if_neg c66, if_pos c84]
            exact ⟨by rw [h9], rfl, by rw [h9]; exact if_neg (by decide)⟩
        · refine z_iconst X (v := nI 5) dX3_put_69 (by decide) ?_
          refine z_iret X (Nat.le_of_ble_eq_true rfl) (Nat.le_of_ble_eq_true rfl) ?_ dX3_put_70
          have h9 : putC cn u w x j st = 5 := by unfold putC; rw [if_neg (fun h => h c28), if_neg (fun h => h c43), if_neg c52, if_pos c66]
          exact ⟨by rw [h9], rfl, by rw [h9]; exact if_neg (by decide)⟩
      · refine z_iconst X (v := nI 4) dX3_put_55 (by decide) ?_
        refine z_iret X (Nat.le_of_ble_eq_true rfl) (Nat.le_of_ble_eq_true rfl) ?_ dX3_put_56
        have h9 : putC cn u w x j st = 4 := by unfold putC; rw [if_neg (fun h => h c28), if_neg (fun h => h c43), if_pos c52]
        exact ⟨by rw [h9], rfl, by rw [h9]; exact if_neg (by decide)⟩
    · refine z_iconst X (v := nI 3) dX3_put_46 (by decide) ?_
      refine z_iret X (Nat.le_of_ble_eq_true rfl) (Nat.le_of_ble_eq_true rfl) ?_ dX3_put_47
      have h9 : putC cn u w x j st = 3 := by unfold putC; rw [if_neg (fun h => h c28), if_pos c43]
      exact ⟨by rw [h9], rfl, by rw [h9]; exact if_neg (by decide)⟩
  · refine z_iconst X (v := nI 2) dX3_put_31 (by decide) ?_
    refine z_iret X (Nat.le_of_ble_eq_true rfl) (Nat.le_of_ble_eq_true rfl) ?_ dX3_put_32
    have h9 : putC cn u w x j st = 2 := by unfold putC; rw [if_pos c28]
    exact ⟨by rw [h9], rfl, by rw [h9]; exact if_neg (by decide)⟩
set_option maxHeartbeats 4000000 in
set_option maxRecDepth 100000 in
theorem p_put_o1i (l : Launch) (G : va_G) (cy : Nat → ClassId) (B : Nat) (ad : Nat → Nat) (cn : Nat → Nat) (u : Nat → Nat → Int32) (w : Nat → Nat → Int64) (x : Nat → Nat → UInt64) (r : Nat → Nat → Option Nat) (hI : CI ad cn r) (b : Int32) (hb : ¬ (¬ b < 0 ∧ ¬ nI (cn 6) ≤ b)) (st : Nat) (hs0 : st < cn 12) : Ct l G cy B yX3_put cX3_put 5 (some .int) ({ frames := 1, cells := 0, slots := 0, locals := 21 } : Room) ad (CF cy ad cn u w x r) [.ref (ad 0), .int b, .int (nI st)] (fun v ad' f' => v = some (.int (nI 1)) ∧ ad = ad' ∧ CF cy ad cn u w x r = f') := by
  refine ct_of (by decide +kernel) (Nat.le_of_ble_eq_true rfl) ?_
  intro p e s m args below meth c X hnm
  have hI0 := hI
  obtain ⟨⟨hc3, hc4, hc6, hc9, hc12, hc14⟩, ⟨h30, h31, h32⟩, hr6, hr12, hr14⟩ := hI0
  refine z_lv (lv' := [(0, .ref (ad 0)), (1, .int b), (2, .int (nI st))]) [0, 1, 2] rfl ?_
  refine z_aload_n X 0 dX3_put_0 rfl rfl ?_
  refine z_iload_n X 1 dX3_put_1 rfl rfl ?_
  refine z_callV X (n := 1) (As := [.int b]) (rest := []) 0 rfl (CF_at (k := 0) rfl rfl rfl rfl rfl) rfl (p_findBale_o l G cy B ad cn u w x r hI b hb) q_194 q_195 q_2 q_24 q_196 (by decide +kernel) ⟨Nat.le_of_ble_eq_true rfl, Nat.le_of_ble_eq_true rfl⟩ rfl rfl (Nat.le_of_ble_eq_true rfl) dX3_put_2 ⟨Nat.le_of_ble_eq_true rfl, Nat.le_of_ble_eq_true rfl⟩ (fun v ad' f' hp had => ?_)
  obtain ⟨rfl, rfl, rfl⟩ := hp
  refine z_st (st' := [.null]) rfl ?_
  refine z_astore_nN X (lv' := [(3, .null), (0, .ref (ad 0)), (1, .int b), (2, .int (nI st))]) dX3_put_5 rfl (by decide) rfl ?_
  refine z_aload_n X 1 dX3_put_6 rfl rfl ?_
  refine z_iload_n X 3 dX3_put_7 rfl rfl ?_
  refine z_callV X (n := 1) (As := [.int (nI st)]) (rest := []) 0 rfl (CF_at (k := 0) rfl rfl rfl rfl rfl) rfl (p_findStack_i l G cy B ad cn u w x r hI st hs0) q_294 q_295 q_5 q_24 q_296 (by decide +kernel) ⟨Nat.le_of_ble_eq_true rfl, Nat.le_of_ble_eq_true rfl⟩ rfl rfl (Nat.le_of_ble_eq_true rfl) dX3_put_8 ⟨Nat.le_of_ble_eq_true rfl, Nat.le_of_ble_eq_true rfl⟩ (fun v ad' f' hp had => ?_)
  obtain ⟨rfl, rfl, rfl⟩ := hp
  refine z_st (st' := [.ref (ad (st + 300))]) rfl ?_
  refine z_astore X (lv' := [(4, .ref (ad (st + 300))), (3, .null), (0, .ref (ad 0)), (1, .int b), (2, .int (nI st))]) dX3_put_11 (by decide) rfl ?_
  refine z_aload_nN X 1 dX3_put_13 rfl rfl ?_
  refine z_ifnullN X (tgt := 22) dX3_put_14 (by decide) ?_
  refine z_iconst X (v := nI 1) dX3_put_22 (by decide) ?_
  refine z_iret X (Nat.le_of_ble_eq_true rfl) (Nat.le_of_ble_eq_true rfl) ?_ dX3_put_23
  exact ⟨rfl, rfl, rfl⟩
set_option maxHeartbeats 4000000 in
set_option maxRecDepth 100000 in
theorem p_put_o1o (l : Launch) (G : va_G) (cy : Nat → ClassId) (B : Nat) (ad : Nat → Nat) (cn : Nat → Nat) (u : Nat → Nat → Int32) (w : Nat → Nat → Int64) (x : Nat → Nat → UInt64) (r : Nat → Nat → Option Nat) (hI : CI ad cn r) (b : Int32) (hb : ¬ (¬ b < 0 ∧ ¬ nI (cn 6) ≤ b)) (b2 : Int32) (hb2 : ¬ (¬ b2 < 0 ∧ ¬ nI (cn 12) ≤ b2)) : Ct l G cy B yX3_put cX3_put 5 (some .int) ({ frames := 1, cells := 0, slots := 0, locals := 21 } : Room) ad (CF cy ad cn u w x r) [.ref (ad 0), .int b, .int b2] (fun v ad' f' => v = some (.int (nI 1)) ∧ ad = ad' ∧ CF cy ad cn u w x r = f') := by
  refine ct_of (by decide +kernel) (Nat.le_of_ble_eq_true rfl) ?_
  intro p e s m args below meth c X hnm
  have hI0 := hI
  obtain ⟨⟨hc3, hc4, hc6, hc9, hc12, hc14⟩, ⟨h30, h31, h32⟩, hr6, hr12, hr14⟩ := hI0
  refine z_lv (lv' := [(0, .ref (ad 0)), (1, .int b), (2, .int b2)]) [0, 1, 2] rfl ?_
  refine z_aload_n X 0 dX3_put_0 rfl rfl ?_
  refine z_iload_n X 1 dX3_put_1 rfl rfl ?_
  refine z_callV X (n := 1) (As := [.int b]) (rest := []) 0 rfl (CF_at (k := 0) rfl rfl rfl rfl rfl) rfl (p_findBale_o l G cy B ad cn u w x r hI b hb) q_194 q_195 q_2 q_24 q_196 (by decide +kernel) ⟨Nat.le_of_ble_eq_true rfl, Nat.le_of_ble_eq_true rfl⟩ rfl rfl (Nat.le_of_ble_eq_true rfl) dX3_put_2 ⟨Nat.le_of_ble_eq_true rfl, Nat.le_of_ble_eq_true rfl⟩ (fun v ad' f' hp had => ?_)
  obtain ⟨rfl, rfl, rfl⟩ := hp
  refine z_st (st' := [.null]) rfl ?_
  refine z_astore_nN X (lv' := [(3, .null), (0, .ref (ad 0)), (1, .int b), (2, .int b2)]) dX3_put_5 rfl (by decide) rfl ?_
  refine z_aload_n X 1 dX3_put_6 rfl rfl ?_
  refine z_iload_n X 3 dX3_put_7 rfl rfl ?_
  refine z_callV X (n := 1) (As := [.int b2]) (rest := []) 0 rfl (CF_at (k := 0) rfl rfl rfl rfl rfl) rfl (p_findStack_o l G cy B ad cn u w x r hI b2 hb2) q_294 q_295 q_5 q_24 q_296 (by decide +kernel) ⟨Nat.le_of_ble_eq_true rfl, Nat.le_of_ble_eq_true rfl⟩ rfl rfl (Nat.le_of_ble_eq_true rfl) dX3_put_8 ⟨Nat.le_of_ble_eq_true rfl, Nat.le_of_ble_eq_true rfl⟩ (fun v ad' f' hp had => ?_)
  obtain ⟨rfl, rfl, rfl⟩ := hp
  refine z_st (st' := [.null]) rfl ?_
  refine z_astoreN X (lv' := [(4, .null), (3, .null), (0, .ref (ad 0)), (1, .int b), (2, .int b2)]) dX3_put_11 (by decide) rfl ?_
  refine z_aload_nN X 1 dX3_put_13 rfl rfl ?_
  refine z_ifnullN X (tgt := 22) dX3_put_14 (by decide) ?_
  refine z_iconst X (v := nI 1) dX3_put_22 (by decide) ?_
  refine z_iret X (Nat.le_of_ble_eq_true rfl) (Nat.le_of_ble_eq_true rfl) ?_ dX3_put_23
  exact ⟨rfl, rfl, rfl⟩
set_option maxHeartbeats 4000000 in
set_option maxRecDepth 100000 in
theorem p_put_o2 (l : Launch) (G : va_G) (cy : Nat → ClassId) (B : Nat) (ad : Nat → Nat) (cn : Nat → Nat) (u : Nat → Nat → Int32) (w : Nat → Nat → Int64) (x : Nat → Nat → UInt64) (r : Nat → Nat → Option Nat) (hI : CI ad cn r) (j : Nat) (hj : j < cn 6) (b2 : Int32) (hb2 : ¬ (¬ b2 < 0 ∧ ¬ nI (cn 12) ≤ b2)) : Ct l G cy B yX3_put cX3_put 5 (some .int) ({ frames := 1, cells := 0, slots := 0, locals := 21 } : Room) ad (CF cy ad cn u w x r) [.ref (ad 0), .int (nI j), .int b2] (fun v ad' f' => v = some (.int (nI 1)) ∧ ad = ad' ∧ CF cy ad cn u w x r = f') := by
  refine ct_of (by decide +kernel) (Nat.le_of_ble_eq_true rfl) ?_
  intro p e s m args below meth c X hnm
  have hI0 := hI
  obtain ⟨⟨hc3, hc4, hc6, hc9, hc12, hc14⟩, ⟨h30, h31, h32⟩, hr6, hr12, hr14⟩ := hI0
  refine z_lv (lv' := [(0, .ref (ad 0)), (1, .int (nI j)), (2, .int b2)]) [0, 1, 2] rfl ?_
  refine z_aload_n X 0 dX3_put_0 rfl rfl ?_
  refine z_iload_n X 1 dX3_put_1 rfl rfl ?_
  refine z_callV X (n := 1) (As := [.int (nI j)]) (rest := []) 0 rfl (CF_at (k := 0) rfl rfl rfl rfl rfl) rfl (p_findBale_i l G cy B ad cn u w x r hI j hj) q_194 q_195 q_2 q_24 q_196 (by decide +kernel) ⟨Nat.le_of_ble_eq_true rfl, Nat.le_of_ble_eq_true rfl⟩ rfl rfl (Nat.le_of_ble_eq_true rfl) dX3_put_2 ⟨Nat.le_of_ble_eq_true rfl, Nat.le_of_ble_eq_true rfl⟩ (fun v ad' f' hp had => ?_)
  obtain ⟨rfl, rfl, rfl⟩ := hp
  refine z_st (st' := [.ref (ad (j + 100))]) rfl ?_
  refine z_astore_n X (lv' := [(3, .ref (ad (j + 100))), (0, .ref (ad 0)), (1, .int (nI j)), (2, .int b2)]) dX3_put_5 rfl (by decide) rfl ?_
  refine z_aload_n X 1 dX3_put_6 rfl rfl ?_
  refine z_iload_n X 3 dX3_put_7 rfl rfl ?_
  refine z_callV X (n := 1) (As := [.int b2]) (rest := []) 0 rfl (CF_at (k := 0) rfl rfl rfl rfl rfl) rfl (p_findStack_o l G cy B ad cn u w x r hI b2 hb2) q_294 q_295 q_5 q_24 q_296 (by decide +kernel) ⟨Nat.le_of_ble_eq_true rfl, Nat.le_of_ble_eq_true rfl⟩ rfl rfl (Nat.le_of_ble_eq_true rfl) dX3_put_8 ⟨Nat.le_of_ble_eq_true rfl, Nat.le_of_ble_eq_true rfl⟩ (fun v ad' f' hp had => ?_)
  obtain ⟨rfl, rfl, rfl⟩ := hp
  refine z_st (st' := [.null]) rfl ?_
  refine z_astoreN X (lv' := [(4, .null), (3, .ref (ad (j + 100))), (0, .ref (ad 0)), (1, .int (nI j)), (2, .int b2)]) dX3_put_11 (by decide) rfl ?_
  refine z_aload_n X 1 dX3_put_13 rfl rfl ?_
  refine z_ifnull X dX3_put_14 ?_
  refine z_aloadN X 0 dX3_put_17 rfl ?_
  refine z_ifnonnullN X dX3_put_19 ?_
  refine z_iconst X (v := nI 1) dX3_put_22 (by decide) ?_
  refine z_iret X (Nat.le_of_ble_eq_true rfl) (Nat.le_of_ble_eq_true rfl) ?_ dX3_put_23
  exact ⟨rfl, rfl, rfl⟩
set_option maxHeartbeats 4000000 in
set_option maxRecDepth 100000 in
theorem p_first (l : Launch) (G : va_G) (cy : Nat → ClassId) (B : Nat) (ad : Nat → Nat) (cn : Nat → Nat) (u : Nat → Nat → Int32) (w : Nat → Nat → Int64) (x : Nat → Nat → UInt64) (r : Nat → Nat → Option Nat) (hI : CI ad cn r) (k : Int32) : Ct l G cy B yX3_first cX3_first 4 (some .int) ({ frames := 1, cells := 0, slots := 0, locals := 22 } : Room) ad (CF cy ad cn u w x r) [.ref (ad 0), .int k] (fun v ad' f' => v = some (.int (if scanF (fun b => decide (firstC u w k b)) (cn 6) 0 < cn 6 then nI (scanF (fun b => decide (firstC u w k b)) (cn 6) 0) else -1)) ∧ ad = ad' ∧ (if scanF (fun b => decide (firstC u w k b)) (cn 6) 0 < cn 6 then CF cy ad cn (va_up u (scanF (fun b => decide (firstC u w k b)) (cn 6) 0 + 100) (upd (u (scanF (fun b => decide (firstC u w k b)) (cn 6) 0 + 100)) 4 (nI 2))) w x r else CF cy ad cn u w x r) = f') := by
  refine ct_of (by decide +kernel) (Nat.le_of_ble_eq_true rfl) ?_
  intro p e s m args below meth c X hnm
  have hI0 := hI
  obtain ⟨⟨hc3, hc4, hc6, hc9, hc12, hc14⟩, ⟨h30, h31, h32⟩, hr6, hr12, hr14⟩ := hI0
  refine z_lv (lv' := [(0, .ref (ad 0)), (1, .int k)]) [0, 1] rfl ?_
  refine z_iconst X (v := nI 0) dX3_first_0 (by decide) ?_
  refine z_istore_n X (lv' := [(2, .int (nI 0)), (0, .ref (ad 0)), (1, .int k)]) dX3_first_1 rfl (by decide) rfl ?_
  refine z_lv (lv' := [(0, .ref (ad 0)), (1, .int k), (2, .int (nI 0))]) [1, 2, 0] rfl ?_
  have lp2 : ∀ (fu2 : Nat) (i : Nat), (i ≤ cn 6) → (scanF (fun b => decide (firstC u w k b)) (cn 6 - i) i = scanF (fun b => decide (firstC u w k b)) (cn 6) 0) → cn 6 + 1 ≤ i + fu2 → Z G B 4 ad (CF cy ad cn u w x r) p l e ({ frames := 1, cells := 0, slots := 0, locals := 22 } : Room) s m args below meth c (zEnd G B ad (CF cy ad cn u w x r) below args s ({ frames := 1, cells := 0, slots := 0, locals := 22 } : Room) (fun v ad' f' => v = some (.int (if scanF (fun b => decide (firstC u w k b)) (cn 6) 0 < cn 6 then nI (scanF (fun b => decide (firstC u w k b)) (cn 6) 0) else -1)) ∧ ad = ad' ∧ (if scanF (fun b => decide (firstC u w k b)) (cn 6) 0 < cn 6 then CF cy ad cn (va_up u (scanF (fun b => decide (firstC u w k b)) (cn 6) 0 + 100) (upd (u (scanF (fun b => decide (firstC u w k b)) (cn 6) 0 + 100)) 4 (nI 2))) w x r else CF cy ad cn u w x r) = f')) ad (CF cy ad cn u w x r) 0 0 2 [(0, .ref (ad 0)), (1, .int k), (2, .int (nI i))] [] := by
    intro fu2
    induction fu2 with
    | zero => intro i hi hs hm2; exact absurd hm2 (by omega)
    | succ fu2 ih2 =>
      intro i hi hs hm2
      refine z_iload_n X 2 dX3_first_2 rfl rfl ?_
      refine z_aload_n X 0 dX3_first_3 rfl rfl ?_
      refine z_get X (v := .int (nI (cn 6))) 0 6 wa_X3 rfl rfl (CF_at (k := 0) rfl rfl rfl rfl rfl) (by decide) q_91 rfl rfl dX3_first_4 ?_
      refine z_icmp_geN X (tgt := 49) (by omega) (by omega) dX3_first_7 (by decide) (fun c7 => ?_) (fun c7 => ?_)
      · refine z_iconst X (v := -1) dX3_first_49 (by decide) ?_
        refine z_iret X (Nat.le_of_ble_eq_true rfl) (Nat.le_of_ble_eq_true rfl) ?_ dX3_first_50
        have h9 : scanF (fun b => decide (firstC u w k b)) (cn 6) 0 = i := by rw [← hs, show cn 6 - i = 0 by omega]; rfl
        exact ⟨by rw [h9, if_neg (by omega)], rfl, by rw [h9, if_neg (by omega)]⟩
      · refine z_aload_n X 0 dX3_first_10 rfl rfl ?_
        refine z_iload_n X 2 dX3_first_11 rfl rfl ?_
        refine z_callV X (n := 1) (As := [.int (nI i)]) (rest := []) 0 rfl (CF_at (k := 0) rfl rfl rfl rfl rfl) rfl (p_findBale_i l G cy B ad cn u w x r hI i (by omega)) q_194 q_195 q_2 q_24 q_196 (by decide +kernel) ⟨Nat.le_of_ble_eq_true rfl, Nat.le_of_ble_eq_true rfl⟩ rfl rfl (Nat.le_of_ble_eq_true rfl) dX3_first_12 ⟨Nat.le_of_ble_eq_true rfl, Nat.le_of_ble_eq_true rfl⟩ (fun v ad' f' hp had => ?_)
        obtain ⟨rfl, rfl, rfl⟩ := hp
        refine z_st (st' := [.ref (ad (i + 100))]) rfl ?_
        refine z_astore_n X (lv' := [(3, .ref (ad (i + 100))), (0, .ref (ad 0)), (1, .int k), (2, .int (nI i))]) dX3_first_15 rfl (by decide) rfl ?_
        refine z_aload_n X 0 dX3_first_16 rfl rfl ?_
        refine z_ifnull X dX3_first_17 ?_
        refine z_aload_n X 0 dX3_first_20 rfl rfl ?_
        refine z_getN X (v := .int (u (i + 100) 4)) (i + 100) 4 wa_X0 rfl rfl (CF_at (k := i + 100) rfl rfl rfl rfl (cAt_b (i := i) (by omega) (by omega))) (by decide) (List.mem_of_getElem? (i := 2) rfl) rfl rfl dX3_first_21 ?_
        refine z_iconst X (v := nI 1) dX3_first_24 (by decide) ?_
        refine z_icmp_ne X (tgt := 43) dX3_first_25 (by decide) (fun c25 => ?_) (fun c25 => ?_)
        · refine z_iincN X 3 (k := 1) (lv' := [(2, .int (nI (i + 1))), (3, .ref (ad (i + 100))), (0, .ref (ad 0)), (1, .int k)]) dX3_first_43 rfl (by decide) (by decide) rfl ?_
          refine z_goto X (tgt := 2) dX3_first_46 (by decide) ?_
          refine z_lv (lv' := [(0, .ref (ad 0)), (1, .int k), (2, .int (nI (i + 1)))]) [2, 3, 0] rfl ?_
          exact ih2 (i + 1) (by omega) (by rw [← hs]; exact scanF_n (by omega) (decide_eq_false (fun h => c25 h.1))) (by omega)
        · refine z_aload_n X 0 dX3_first_28 rfl rfl ?_
          refine z_callV X (n := 0) (As := []) (rest := []) (i + 100) rfl (CF_at (k := i + 100) rfl rfl rfl rfl (cAt_b (i := i) (by omega) (by omega))) rfl (b_mainKind l G cy B ad (CF cy ad cn u w x r) (i + 100) (i + 200) (x (i + 100) 1) (u (i + 100) 2) (u (i + 100) 3) (u (i + 100) 4) (u (i + 100) 5) (u (i + 100) 6) (r (i + 100) 7) (r (i + 100) 8) (w (i + 200)) (CF_at (k := i + 100) rfl rfl rfl rfl (cAt_b (i := i) (by omega) (by omega))) (CF_at (k := i + 200) rfl rfl rfl rfl (cAt_g (i := i) (by omega) (by omega)))) q_305 q_306 q_307 q_30 q_308 (by decide +kernel) ⟨Nat.le_of_ble_eq_true rfl, Nat.le_of_ble_eq_true rfl⟩ rfl rfl (Nat.le_of_ble_eq_true rfl) dX3_first_29 ⟨Nat.le_of_ble_eq_true rfl, Nat.le_of_ble_eq_true rfl⟩ (fun v ad' f' hp had => ?_)
          obtain ⟨rfl, rfl, rfl⟩ := hp
          refine z_st (st' := [.int (nI (mainL (w (i + 200)) 3))]) rfl ?_
          refine z_iload_n X 2 dX3_first_32 rfl rfl ?_
          refine z_icmp_ne X (tgt := 43) dX3_first_33 (by decide) (fun c33 => ?_) (fun c33 => ?_)
          · refine z_iincN X 3 (k := 1) (lv' := [(2, .int (nI (i + 1))), (3, .ref (ad (i + 100))), (0, .ref (ad 0)), (1, .int k)]) dX3_first_43 rfl (by decide) (by decide) rfl ?_
            refine z_goto X (tgt := 2) dX3_first_46 (by decide) ?_
            refine z_lv (lv' := [(0, .ref (ad 0)), (1, .int k), (2, .int (nI (i + 1)))]) [2, 3, 0] rfl ?_
            exact ih2 (i + 1) (by omega) (by rw [← hs]; exact scanF_n (by omega) (decide_eq_false (fun h => c33 h.2))) (by omega)
          · refine z_aload_n X 0 dX3_first_36 rfl rfl ?_
            refine z_iconst X (v := nI 2) dX3_first_37 (by decide) ?_
            refine z_putN X (ty := .int) (i + 100) 4 wa_X0 tyX0 tyX0_ok nmX0 rfl rfl (CF_at (k := i + 100) rfl rfl rfl rfl (cAt_b (i := i) (by omega) (by omega))) (by decide) (List.mem_of_getElem? (i := 2) rfl) rfl rfl (by decide +kernel) rfl rfl (Nat.le_of_ble_eq_true rfl) dX3_first_38 ?_
            refine z_f (CFs_u (k := i + 100) (upd (u (i + 100)) 4 (nI 2)) rfl rfl rfl (cAt_b (i := i) (by omega) (by omega))) ?_
            refine z_iload_n X 3 dX3_first_41 rfl rfl ?_
            refine z_iret X (Nat.le_of_ble_eq_true rfl) (Nat.le_of_ble_eq_true rfl) ?_ dX3_first_42
            have h9 : scanF (fun b => decide (firstC u w k b)) (cn 6) 0 = i := by rw [← hs]; exact scanF_y (by omega) (decide_eq_true ⟨c25, c33⟩)
            exact ⟨by rw [h9, if_pos (by omega)], rfl, by rw [h9, if_pos (by omega)]⟩
  exact lp2 (cn 6 + 1) 0 (by omega) (by rfl) (by omega)
set_option maxHeartbeats 4000000 in
set_option maxRecDepth 100000 in
theorem p_load_i (l : Launch) (G : va_G) (cy : Nat → ClassId) (B : Nat) (ad : Nat → Nat) (cn : Nat → Nat) (u : Nat → Nat → Int32) (w : Nat → Nat → Int64) (x : Nat → Nat → UInt64) (r : Nat → Nat → Option Nat) (hI : CI ad cn r) (li ct : Nat) (hli : li < cn 14) (hct : u (li + 400) 4 = nI ct) (hc8 : ct ≤ 8) (j : Nat) (hj : j < cn 6) : Ct l G cy B yX3_load cX3_load 5 (some .int) ({ frames := 2, cells := 0, slots := 0, locals := 45 } : Room) ad (CF cy ad cn u w x r) [.ref (ad 0), .int (nI li), .int (nI j)] (fun v ad' f' => v = some (.int (if okLoadC u w li ct j then nI ct else -1)) ∧ ad = ad' ∧ (if okLoadC u w li ct j then CF cy ad cn (va_up (va_up u (j + 100) (upd (u (j + 100)) 6 (nI 1))) (li + 400) (upd (u (li + 400)) 4 (nI (ct + 1)))) (va_up w (li + 400) (vp_updL (vp_updL (w (li + 400)) 2 (w (li + 400) 2 + sumL (w (j + 200)) 4)) 3 (w (li + 400) 3 + sumL (w (j + 200)) 4 * lN (ct + 1)))) x r else CF cy ad cn u w x r) = f') := by
  refine ct_of (by decide +kernel) (Nat.le_of_ble_eq_true rfl) ?_
  intro p e s m args below meth c X hnm
  have hI0 := hI
  obtain ⟨⟨hc3, hc4, hc6, hc9, hc12, hc14⟩, ⟨h30, h31, h32⟩, hr6, hr12, hr14⟩ := hI0
  refine z_lv (lv' := [(0, .ref (ad 0)), (1, .int (nI li)), (2, .int (nI j))]) [0, 1, 2] rfl ?_
  refine z_aload_n X 0 dX3_load_0 rfl rfl ?_
  refine z_iload_n X 1 dX3_load_1 rfl rfl ?_
  refine z_callV X (n := 1) (As := [.int (nI li)]) (rest := []) 0 rfl (CF_at (k := 0) rfl rfl rfl rfl rfl) rfl (p_findLorry_i l G cy B ad cn u w x r hI li hli) q_356 q_357 q_10 q_24 q_358 (by decide +kernel) ⟨Nat.le_of_ble_eq_true rfl, Nat.le_of_ble_eq_true rfl⟩ rfl rfl (Nat.le_of_ble_eq_true rfl) dX3_load_2 ⟨Nat.le_of_ble_eq_true rfl, Nat.le_of_ble_eq_true rfl⟩ (fun v ad' f' hp had => ?_)
  obtain ⟨rfl, rfl, rfl⟩ := hp
  refine z_st (st' := [.ref (ad (li + 400))]) rfl ?_
  refine z_astore_n X (lv' := [(3, .ref (ad (li + 400))), (0, .ref (ad 0)), (1, .int (nI li)), (2, .int (nI j))]) dX3_load_5 rfl (by decide) rfl ?_
  refine z_aload_n X 1 dX3_load_6 rfl rfl ?_
  refine z_iload_n X 3 dX3_load_7 rfl rfl ?_
  refine z_callV X (n := 1) (As := [.int (nI j)]) (rest := []) 0 rfl (CF_at (k := 0) rfl rfl rfl rfl rfl) rfl (p_findBale_i l G cy B ad cn u w x r hI j hj) q_194 q_195 q_2 q_24 q_196 (by decide +kernel) ⟨Nat.le_of_ble_eq_true rfl, Nat.le_of_ble_eq_true rfl⟩ rfl rfl (Nat.le_of_ble_eq_true rfl) dX3_load_8 ⟨Nat.le_of_ble_eq_true rfl, Nat.le_of_ble_eq_true rfl⟩ (fun v ad' f' hp had => ?_)
  obtain ⟨rfl, rfl, rfl⟩ := hp
  refine z_st (st' := [.ref (ad (j + 100))]) rfl ?_
  refine z_astore X (lv' := [(4, .ref (ad (j + 100))), (3, .ref (ad (li + 400))), (0, .ref (ad 0)), (1, .int (nI li)), (2, .int (nI j))]) dX3_load_11 (by decide) rfl ?_
  refine z_aload_n X 1 dX3_load_13 rfl rfl ?_
  refine z_ifnull X dX3_load_14 ?_
  refine z_aload X 0 dX3_load_17 rfl ?_
  refine z_ifnonnull X (tgt := 24) dX3_load_19 (by decide) ?_
  refine z_aload X 0 dX3_load_24 rfl ?_
  refine z_getN X (v := .int (u (j + 100) 4)) (j + 100) 4 wa_X0 rfl rfl (CF_at (k := j + 100) rfl rfl rfl rfl (cAt_b (i := j) (by omega) (by omega))) (by decide) (List.mem_of_getElem? (i := 2) rfl) rfl rfl dX3_load_26 ?_
  refine z_iconst X (v := nI 2) dX3_load_29 (by decide) ?_
  refine z_icmp_ne X (tgt := 53) dX3_load_30 (by decide) (fun c30 => ?_) (fun c30 => ?_)
  · refine z_iconst X (v := -1) dX3_load_53 (by decide) ?_
    refine z_iret X (Nat.le_of_ble_eq_true rfl) (Nat.le_of_ble_eq_true rfl) ?_ dX3_load_54
    have h9 : ¬ okLoadC u w li ct j := fun h9 => c30 h9.1
    exact ⟨by rw [if_neg h9], rfl, by rw [if_neg h9]⟩
  · refine z_aload X 0 dX3_load_33 rfl ?_
    refine z_getN X (v := .int (u (j + 100) 6)) (j + 100) 6 wa_X0 rfl rfl (CF_at (k := j + 100) rfl rfl rfl rfl (cAt_b (i := j) (by omega) (by omega))) (by decide) (List.mem_of_getElem? (i := 4) rfl) rfl rfl dX3_load_35 ?_
    refine z_if_ne X (tgt := 53) dX3_load_38 (by decide) (fun c38 => ?_) (fun c38 => ?_)
    · refine z_iconst X (v := -1) dX3_load_53 (by decide) ?_
      refine z_iret X (Nat.le_of_ble_eq_true rfl) (Nat.le_of_ble_eq_true rfl) ?_ dX3_load_54
      have h9 : ¬ okLoadC u w li ct j := fun h9 => c38 h9.2.1
      exact ⟨by rw [if_neg h9], rfl, by rw [if_neg h9]⟩
    · refine z_aload_n X 1 dX3_load_41 rfl rfl ?_
      refine z_aload X 0 dX3_load_42 rfl ?_
      refine z_callV X (n := 0) (As := []) (rest := [.ref (ad (li + 400))]) (j + 100) rfl (CF_at (k := j + 100) rfl rfl rfl rfl (cAt_b (i := j) (by omega) (by omega))) rfl (b_totalGrams l G cy B ad (CF cy ad cn u w x r) (j + 100) (j + 200) (x (j + 100) 1) (u (j + 100) 2) (u (j + 100) 3) (u (j + 100) 4) (u (j + 100) 5) (u (j + 100) 6) (r (j + 100) 7) (r (j + 100) 8) (w (j + 200)) (CF_at (k := j + 100) rfl rfl rfl rfl (cAt_b (i := j) (by omega) (by omega))) (CF_at (k := j + 200) rfl rfl rfl rfl (cAt_g (i := j) (by omega) (by omega)))) q_210 q_211 q_212 q_30 q_213 (by decide +kernel) ⟨Nat.le_of_ble_eq_true rfl, Nat.le_of_ble_eq_true rfl⟩ rfl rfl (Nat.le_of_ble_eq_true rfl) dX3_load_44 ⟨Nat.le_of_ble_eq_true rfl, Nat.le_of_ble_eq_true rfl⟩ (fun v ad' f' hp had => ?_)
      obtain ⟨rfl, rfl, rfl⟩ := hp
      refine z_st (st' := [.long (sumL (w (j + 200)) 4), .ref (ad (li + 400))]) rfl ?_
      refine z_callV X (n := 1) (As := [.long (sumL (w (j + 200)) 4)]) (rest := []) (li + 400) rfl (CF_at (k := li + 400) rfl rfl rfl rfl (cAt_l (i := li) (by omega) (by omega))) rfl (y_hasRoomFor l G cy B ad (CF cy ad cn u w x r) (li + 400) (w (li + 400) 0) (w (li + 400) 1) (w (li + 400) 2) (w (li + 400) 3) ct hc8 (by rw [← hct]; exact (CF_at (k := li + 400) rfl rfl rfl rfl (cAt_l (i := li) (by omega) (by omega)))) (sumL (w (j + 200)) 4)) q_359 q_360 q_361 q_33 q_362 (by decide +kernel) ⟨Nat.le_of_ble_eq_true rfl, Nat.le_of_ble_eq_true rfl⟩ rfl rfl (Nat.le_of_ble_eq_true rfl) dX3_load_47 ⟨Nat.le_of_ble_eq_true rfl, Nat.le_of_ble_eq_true rfl⟩ (fun v ad' f' hp had => ?_)
      obtain ⟨rfl, rfl, rfl⟩ := hp
      refine z_st (st' := [.int (nI (if ct < 8 ∧ w (li + 400) 2 + sumL (w (j + 200)) 4 ≤ w (li + 400) 0 ∧ w (li + 400) 3 + sumL (w (j + 200)) 4 * lN (ct + 1) ≤ w (li + 400) 1 then 1 else 0))]) rfl ?_
      refine z_if_neB X (tgt := 55) dX3_load_50 (by decide) (fun c50 => ?_) (fun c50 => ?_)
      · refine z_aload X 0 dX3_load_55 rfl ?_
        refine z_iconst X (v := nI 1) dX3_load_57 (by decide) ?_
        refine z_putN X (ty := .boolean) (j + 100) 6 wa_X0 tyX0 tyX0_ok nmX0 rfl rfl (CF_at (k := j + 100) rfl rfl rfl rfl (cAt_b (i := j) (by omega) (by omega))) (by decide) (List.mem_of_getElem? (i := 4) rfl) rfl rfl (by decide +kernel) (by decide) (by decide) (Nat.le_of_ble_eq_true rfl) dX3_load_58 ?_
        refine z_f (CFs_u (k := j + 100) (upd (u (j + 100)) 6 (nI 1)) rfl rfl rfl (cAt_b (i := j) (by omega) (by omega))) ?_
        refine z_aload_n X 1 dX3_load_61 rfl rfl ?_
        refine z_aload X 0 dX3_load_62 rfl ?_
        refine z_callV X (n := 0) (As := []) (rest := [.ref (ad (li + 400))]) (j + 100) rfl (CF_at (k := j + 100) va_same rfl rfl rfl (cAt_b (i := j) (by omega) (by omega))) rfl (b_totalGrams l G cy B ad (CF cy ad cn (va_up u (j + 100) (upd (u (j + 100)) 6 (nI 1))) w x r) (j + 100) (j + 200) (x (j + 100) 1) (u (j + 100) 2) (u (j + 100) 3) (u (j + 100) 4) (u (j + 100) 5) (nI 1) (r (j + 100) 7) (r (j + 100) 8) (w (j + 200)) (CF_at (k := j + 100) va_same rfl rfl rfl (cAt_b (i := j) (by omega) (by omega))) (CF_at (k := j + 200) (va_ne (by omega)) rfl rfl rfl (cAt_g (i := j) (by omega) (by omega)))) q_210 q_211 q_212 q_30 q_213 (by decide +kernel) ⟨Nat.le_of_ble_eq_true rfl, Nat.le_of_ble_eq_true rfl⟩ rfl rfl (Nat.le_of_ble_eq_true rfl) dX3_load_64 ⟨Nat.le_of_ble_eq_true rfl, Nat.le_of_ble_eq_true rfl⟩ (fun v ad' f' hp had => ?_)
        obtain ⟨rfl, rfl, rfl⟩ := hp
        refine z_st (st' := [.long (sumL (w (j + 200)) 4), .ref (ad (li + 400))]) rfl ?_
        refine z_callV X (n := 1) (As := [.long (sumL (w (j + 200)) 4)]) (rest := []) (li + 400) rfl (CF_at (k := li + 400) (va_ne (by omega)) rfl rfl rfl (cAt_l (i := li) (by omega) (by omega))) rfl (y_takeOn l G cy B ad (CF cy ad cn (va_up u (j + 100) (upd (u (j + 100)) 6 (nI 1))) w x r) (li + 400) (w (li + 400) 0) (w (li + 400) 1) (w (li + 400) 2) (w (li + 400) 3) ct hc8 (by rw [← hct]; exact CF_lf (i := li) (by omega) (by omega) (va_ne (by omega))) (sumL (w (j + 200)) 4)) q_366 q_367 q_368 q_33 q_369 (by decide +kernel) ⟨Nat.le_of_ble_eq_true rfl, Nat.le_of_ble_eq_true rfl⟩ rfl rfl (Nat.le_of_ble_eq_true rfl) dX3_load_67 ⟨Nat.le_of_ble_eq_true rfl, Nat.le_of_ble_eq_true rfl⟩ (fun v ad' f' hp had => ?_)
        obtain ⟨rfl, rfl, rfl⟩ := hp
        refine z_st (st' := [.int (nI ct)]) rfl ?_
        refine z_f (CF_uw (k := li + 400) (upd (u (li + 400)) 4 (nI (ct + 1))) (vp_updL (vp_updL (w (li + 400)) 2 (w (li + 400) 2 + sumL (w (j + 200)) 4)) 3 (w (li + 400) 3 + sumL (w (j + 200)) 4 * lN (ct + 1))) ((cAt_l (i := li) (by omega) (by omega)).trans (by rfl))) ?_
        refine z_iret X (Nat.le_of_ble_eq_true rfl) (Nat.le_of_ble_eq_true rfl) ?_ dX3_load_70
        have h9 : okLoadC u w li ct j := ⟨c30, c38, c50⟩
        exact ⟨by rw [if_pos h9], rfl, by rw [if_pos h9]⟩
      · refine z_iconst X (v := -1) dX3_load_53 (by decide) ?_
        refine z_iret X (Nat.le_of_ble_eq_true rfl) (Nat.le_of_ble_eq_true rfl) ?_ dX3_load_54
        have h9 : ¬ okLoadC u w li ct j := fun h9 => c50 h9.2.2
        exact ⟨by rw [if_neg h9], rfl, by rw [if_neg h9]⟩
set_option maxHeartbeats 4000000 in
set_option maxRecDepth 100000 in
theorem p_load_o1i (l : Launch) (G : va_G) (cy : Nat → ClassId) (B : Nat) (ad : Nat → Nat) (cn : Nat → Nat) (u : Nat → Nat → Int32) (w : Nat → Nat → Int64) (x : Nat → Nat → UInt64) (r : Nat → Nat → Option Nat) (hI : CI ad cn r) (b : Int32) (hb : ¬ (¬ b < 0 ∧ ¬ nI (cn 14) ≤ b)) (j : Nat) (hj : j < cn 6) : Ct l G cy B yX3_load cX3_load 5 (some .int) ({ frames := 1, cells := 0, slots := 0, locals := 21 } : Room) ad (CF cy ad cn u w x r) [.ref (ad 0), .int b, .int (nI j)] (fun v ad' f' => v = some (.int (-1)) ∧ ad = ad' ∧ CF cy ad cn u w x r = f') := by
  refine ct_of (by decide +kernel) (Nat.le_of_ble_eq_true rfl) ?_
  intro p e s m args below meth c X hnm
  have hI0 := hI
  obtain ⟨⟨hc3, hc4, hc6, hc9, hc12, hc14⟩, ⟨h30, h31, h32⟩, hr6, hr12, hr14⟩ := hI0
  refine z_lv (lv' := [(0, .ref (ad 0)), (1, .int b), (2, .int (nI j))]) [0, 1, 2] rfl ?_
  refine z_aload_n X 0 dX3_load_0 rfl rfl ?_
  refine z_iload_n X 1 dX3_load_1 rfl rfl ?_
  refine z_callV X (n := 1) (As := [.int b]) (rest := []) 0 rfl (CF_at (k := 0) rfl rfl rfl rfl rfl) rfl (p_findLorry_o l G cy B ad cn u w x r hI b hb) q_356 q_357 q_10 q_24 q_358 (by decide +kernel) ⟨Nat.le_of_ble_eq_true rfl, Nat.le_of_ble_eq_true rfl⟩ rfl rfl (Nat.le_of_ble_eq_true rfl) dX3_load_2 ⟨Nat.le_of_ble_eq_true rfl, Nat.le_of_ble_eq_true rfl⟩ (fun v ad' f' hp had => ?_)
  obtain ⟨rfl, rfl, rfl⟩ := hp
  refine z_st (st' := [.null]) rfl ?_
  refine z_astore_nN X (lv' := [(3, .null), (0, .ref (ad 0)), (1, .int b), (2, .int (nI j))]) dX3_load_5 rfl (by decide) rfl ?_
  refine z_aload_n X 1 dX3_load_6 rfl rfl ?_
  refine z_iload_n X 3 dX3_load_7 rfl rfl ?_
  refine z_callV X (n := 1) (As := [.int (nI j)]) (rest := []) 0 rfl (CF_at (k := 0) rfl rfl rfl rfl rfl) rfl (p_findBale_i l G cy B ad cn u w x r hI j hj) q_194 q_195 q_2 q_24 q_196 (by decide +kernel) ⟨Nat.le_of_ble_eq_true rfl, Nat.le_of_ble_eq_true rfl⟩ rfl rfl (Nat.le_of_ble_eq_true rfl) dX3_load_8 ⟨Nat.le_of_ble_eq_true rfl, Nat.le_of_ble_eq_true rfl⟩ (fun v ad' f' hp had => ?_)
  obtain ⟨rfl, rfl, rfl⟩ := hp
  refine z_st (st' := [.ref (ad (j + 100))]) rfl ?_
  refine z_astore X (lv' := [(4, .ref (ad (j + 100))), (3, .null), (0, .ref (ad 0)), (1, .int b), (2, .int (nI j))]) dX3_load_11 (by decide) rfl ?_
  refine z_aload_nN X 1 dX3_load_13 rfl rfl ?_
  refine z_ifnullN X (tgt := 22) dX3_load_14 (by decide) ?_
  refine z_iconst X (v := -1) dX3_load_22 (by decide) ?_
  refine z_iret X (Nat.le_of_ble_eq_true rfl) (Nat.le_of_ble_eq_true rfl) ?_ dX3_load_23
  exact ⟨rfl, rfl, rfl⟩
set_option maxHeartbeats 4000000 in
set_option maxRecDepth 100000 in
theorem p_load_o1o (l : Launch) (G : va_G) (cy : Nat → ClassId) (B : Nat) (ad : Nat → Nat) (cn : Nat → Nat) (u : Nat → Nat → Int32) (w : Nat → Nat → Int64) (x : Nat → Nat → UInt64) (r : Nat → Nat → Option Nat) (hI : CI ad cn r) (b : Int32) (hb : ¬ (¬ b < 0 ∧ ¬ nI (cn 14) ≤ b)) (b2 : Int32) (hb2 : ¬ (¬ b2 < 0 ∧ ¬ nI (cn 6) ≤ b2)) : Ct l G cy B yX3_load cX3_load 5 (some .int) ({ frames := 1, cells := 0, slots := 0, locals := 21 } : Room) ad (CF cy ad cn u w x r) [.ref (ad 0), .int b, .int b2] (fun v ad' f' => v = some (.int (-1)) ∧ ad = ad' ∧ CF cy ad cn u w x r = f') := by
  refine ct_of (by decide +kernel) (Nat.le_of_ble_eq_true rfl) ?_
  intro p e s m args below meth c X hnm
  have hI0 := hI
  obtain ⟨⟨hc3, hc4, hc6, hc9, hc12, hc14⟩, ⟨h30, h31, h32⟩, hr6, hr12, hr14⟩ := hI0
  refine z_lv (lv' := [(0, .ref (ad 0)), (1, .int b), (2, .int b2)]) [0, 1, 2] rfl ?_
  refine z_aload_n X 0 dX3_load_0 rfl rfl ?_
  refine z_iload_n X 1 dX3_load_1 rfl rfl ?_
  refine z_callV X (n := 1) (As := [.int b]) (rest := []) 0 rfl (CF_at (k := 0) rfl rfl rfl rfl rfl) rfl (p_findLorry_o l G cy B ad cn u w x r hI b hb) q_356 q_357 q_10 q_24 q_358 (by decide +kernel) ⟨Nat.le_of_ble_eq_true rfl, Nat.le_of_ble_eq_true rfl⟩ rfl rfl (Nat.le_of_ble_eq_true rfl) dX3_load_2 ⟨Nat.le_of_ble_eq_true rfl, Nat.le_of_ble_eq_true rfl⟩ (fun v ad' f' hp had => ?_)
  obtain ⟨rfl, rfl, rfl⟩ := hp
  refine z_st (st' := [.null]) rfl ?_
  refine z_astore_nN X (lv' := [(3, .null), (0, .ref (ad 0)), (1, .int b), (2, .int b2)]) dX3_load_5 rfl (by decide) rfl ?_
  refine z_aload_n X 1 dX3_load_6 rfl rfl ?_
  refine z_iload_n X 3 dX3_load_7 rfl rfl ?_
  refine z_callV X (n := 1) (As := [.int b2]) (rest := []) 0 rfl (CF_at (k := 0) rfl rfl rfl rfl rfl) rfl (p_findBale_o l G cy B ad cn u w x r hI b2 hb2) q_194 q_195 q_2 q_24 q_196 (by decide +kernel) ⟨Nat.le_of_ble_eq_true rfl, Nat.le_of_ble_eq_true rfl⟩ rfl rfl (Nat.le_of_ble_eq_true rfl) dX3_load_8 ⟨Nat.le_of_ble_eq_true rfl, Nat.le_of_ble_eq_true rfl⟩ (fun v ad' f' hp had => ?_)
  obtain ⟨rfl, rfl, rfl⟩ := hp
  refine z_st (st' := [.null]) rfl ?_
  refine z_astoreN X (lv' := [(4, .null), (3, .null), (0, .ref (ad 0)), (1, .int b), (2, .int b2)]) dX3_load_11 (by decide) rfl ?_
  refine z_aload_nN X 1 dX3_load_13 rfl rfl ?_
  refine z_ifnullN X (tgt := 22) dX3_load_14 (by decide) ?_
  refine z_iconst X (v := -1) dX3_load_22 (by decide) ?_
  refine z_iret X (Nat.le_of_ble_eq_true rfl) (Nat.le_of_ble_eq_true rfl) ?_ dX3_load_23
  exact ⟨rfl, rfl, rfl⟩
set_option maxHeartbeats 4000000 in
set_option maxRecDepth 100000 in
theorem p_load_o2 (l : Launch) (G : va_G) (cy : Nat → ClassId) (B : Nat) (ad : Nat → Nat) (cn : Nat → Nat) (u : Nat → Nat → Int32) (w : Nat → Nat → Int64) (x : Nat → Nat → UInt64) (r : Nat → Nat → Option Nat) (hI : CI ad cn r) (li : Nat) (hli : li < cn 14) (b2 : Int32) (hb2 : ¬ (¬ b2 < 0 ∧ ¬ nI (cn 6) ≤ b2)) : Ct l G cy B yX3_load cX3_load 5 (some .int) ({ frames := 1, cells := 0, slots := 0, locals := 21 } : Room) ad (CF cy ad cn u w x r) [.ref (ad 0), .int (nI li), .int b2] (fun v ad' f' => v = some (.int (-1)) ∧ ad = ad' ∧ CF cy ad cn u w x r = f') := by
  refine ct_of (by decide +kernel) (Nat.le_of_ble_eq_true rfl) ?_
  intro p e s m args below meth c X hnm
  have hI0 := hI
  obtain ⟨⟨hc3, hc4, hc6, hc9, hc12, hc14⟩, ⟨h30, h31, h32⟩, hr6, hr12, hr14⟩ := hI0
  refine z_lv (lv' := [(0, .ref (ad 0)), (1, .int (nI li)), (2, .int b2)]) [0, 1, 2] rfl ?_
  refine z_aload_n X 0 dX3_load_0 rfl rfl ?_
  refine z_iload_n X 1 dX3_load_1 rfl rfl ?_
  refine z_callV X (n := 1) (As := [.int (nI li)]) (rest := []) 0 rfl (CF_at (k := 0) rfl rfl rfl rfl rfl) rfl (p_findLorry_i l G cy B ad cn u w x r hI li hli) q_356 q_357 q_10 q_24 q_358 (by decide +kernel) ⟨Nat.le_of_ble_eq_true rfl, Nat.le_of_ble_eq_true rfl⟩ rfl rfl (Nat.le_of_ble_eq_true rfl) dX3_load_2 ⟨Nat.le_of_ble_eq_true rfl, Nat.le_of_ble_eq_true rfl⟩ (fun v ad' f' hp had => ?_)
  obtain ⟨rfl, rfl, rfl⟩ := hp
  refine z_st (st' := [.ref (ad (li + 400))]) rfl ?_
  refine z_astore_n X (lv' := [(3, .ref (ad (li + 400))), (0, .ref (ad 0)), (1, .int (nI li)), (2, .int b2)]) dX3_load_5 rfl (by decide) rfl ?_
  refine z_aload_n X 1 dX3_load_6 rfl rfl ?_
  refine z_iload_n X 3 dX3_load_7 rfl rfl ?_
  refine z_callV X (n := 1) (As := [.int b2]) (rest := []) 0 rfl (CF_at (k := 0) rfl rfl rfl rfl rfl) rfl (p_findBale_o l G cy B ad cn u w x r hI b2 hb2) q_194 q_195 q_2 q_24 q_196 (by decide +kernel) ⟨Nat.le_of_ble_eq_true rfl, Nat.le_of_ble_eq_true rfl⟩ rfl rfl (Nat.le_of_ble_eq_true rfl) dX3_load_8 ⟨Nat.le_of_ble_eq_true rfl, Nat.le_of_ble_eq_true rfl⟩ (fun v ad' f' hp had => ?_)
  obtain ⟨rfl, rfl, rfl⟩ := hp
  refine z_st (st' := [.null]) rfl ?_
  refine z_astoreN X (lv' := [(4, .null), (3, .ref (ad (li + 400))), (0, .ref (ad 0)), (1, .int (nI li)), (2, .int b2)]) dX3_load_11 (by decide) rfl ?_
  refine z_aload_n X 1 dX3_load_13 rfl rfl ?_
  refine z_ifnull X dX3_load_14 ?_
  refine z_aloadN X 0 dX3_load_17 rfl ?_
  refine z_ifnonnullN X dX3_load_19 ?_
  refine z_iconst X (v := -1) dX3_load_22 (by decide) ?_
  refine z_iret X (Nat.le_of_ble_eq_true rfl) (Nat.le_of_ble_eq_true rfl) ?_ dX3_load_23
  exact ⟨rfl, rfl, rfl⟩
set_option maxHeartbeats 4000000 in
set_option maxRecDepth 100000 in
theorem p_moment_i (l : Launch) (G : va_G) (cy : Nat → ClassId) (B : Nat) (ad : Nat → Nat) (cn : Nat → Nat) (u : Nat → Nat → Int32) (w : Nat → Nat → Int64) (x : Nat → Nat → UInt64) (r : Nat → Nat → Option Nat) (hI : CI ad cn r) (li : Nat) (hli : li < cn 14) (pt : Int32) : Ct l G cy B yX3_moment cX3_moment 4 (some .long) ({ frames := 1, cells := 0, slots := 0, locals := 25 } : Room) ad (CF cy ad cn u w x r) [.ref (ad 0), .int (nI li), .int pt] (fun v ad' f' => v = some (.long (if okPart pt then (if pt = 0 then w (li + 400) 2 else w (li + 400) 3) else -1)) ∧ ad = ad' ∧ CF cy ad cn u w x r = f') := by
  refine ct_of (by decide +kernel) (Nat.le_of_ble_eq_true rfl) ?_
  intro p e s m args below meth c X hnm
  have hI0 := hI
  obtain ⟨⟨hc3, hc4, hc6, hc9, hc12, hc14⟩, ⟨h30, h31, h32⟩, hr6, hr12, hr14⟩ := hI0
  refine z_lv (lv' := [(0, .ref (ad 0)), (1, .int (nI li)), (2, .int pt)]) [0, 1, 2] rfl ?_
  refine z_aload_n X 0 dX3_moment_0 rfl rfl ?_
  refine z_iload_n X 1 dX3_moment_1 rfl rfl ?_
  refine z_callV X (n := 1) (As := [.int (nI li)]) (rest := []) 0 rfl (CF_at (k := 0) rfl rfl rfl rfl rfl) rfl (p_findLorry_i l G cy B ad cn u w x r hI li hli) q_356 q_357 q_10 q_24 q_358 (by decide +kernel) ⟨Nat.le_of_ble_eq_true rfl, Nat.le_of_ble_eq_true rfl⟩ rfl rfl (Nat.le_of_ble_eq_true rfl) dX3_moment_2 ⟨Nat.le_of_ble_eq_true rfl, Nat.le_of_ble_eq_true rfl⟩ (fun v ad' f' hp had => ?_)
  obtain ⟨rfl, rfl, rfl⟩ := hp
  refine z_st (st' := [.ref (ad (li + 400))]) rfl ?_
  refine z_astore_n X (lv' := [(3, .ref (ad (li + 400))), (0, .ref (ad 0)), (1, .int (nI li)), (2, .int pt)]) dX3_moment_5 rfl (by decide) rfl ?_
  refine z_aload_n X 0 dX3_moment_6 rfl rfl ?_
  refine z_ifnull X dX3_moment_7 ?_
  refine z_iload_n X 3 dX3_moment_10 rfl rfl ?_
  refine z_i2l X dX3_moment_11 ?_
  refine z_lconst X (v := 0) dX3_moment_12 rfl ?_
  refine z_lconst X (v := 1) dX3_moment_13 rfl ?_
  refine z_callS X (n := 3) (As := [.long pt.toInt64, .long 0, .long 1]) (rest := []) (c_X3_isWithin l G cy B ad (CF cy ad cn u w x r) pt.toInt64 0 1) q_142 q_143 q_24 q_144 (by decide +kernel) ⟨Nat.le_of_ble_eq_true rfl, Nat.le_of_ble_eq_true rfl⟩ rfl rfl (Nat.le_of_ble_eq_true rfl) dX3_moment_14 ⟨Nat.le_of_ble_eq_true rfl, Nat.le_of_ble_eq_true rfl⟩ (fun v ad' f' hp had => ?_)
  obtain ⟨rfl, rfl, rfl⟩ := hp
  refine z_st (st' := [.int (nI (if 0 ≤ pt.toInt64 ∧ pt.toInt64 ≤ 1 then 1 else 0))]) rfl ?_
  refine z_if_neB X (tgt := 24) dX3_moment_17 (by decide) (fun c17 => ?_) (fun c17 => ?_)
  · refine z_iload_n X 3 dX3_moment_24 rfl rfl ?_
    refine z_if_ne X (tgt := 35) dX3_moment_25 (by decide) (fun c25 => ?_) (fun c25 => ?_)
    · refine z_aload_n X 0 dX3_moment_35 rfl rfl ?_
      refine z_getN X (v := .long (w (li + 400) 3)) (li + 400) 3 wa_X1 rfl rfl (CF_at (k := li + 400) rfl rfl rfl rfl (cAt_l (i := li) (by omega) (by omega))) (by decide) (List.mem_of_getElem? (i := 10) rfl) rfl rfl dX3_moment_36 ?_
      refine z_lret X (Nat.le_of_ble_eq_true rfl) (Nat.le_of_ble_eq_true rfl) ?_ dX3_moment_39
      exact ⟨by rw [if_pos c17, if_neg c25], rfl, rfl⟩
    · refine z_aload_n X 0 dX3_moment_28 rfl rfl ?_
      refine z_getN X (v := .long (w (li + 400) 2)) (li + 400) 2 wa_X1 rfl rfl (CF_at (k := li + 400) rfl rfl rfl rfl (cAt_l (i := li) (by omega) (by omega))) (by decide) (List.mem_of_getElem? (i := 9) rfl) rfl rfl dX3_moment_29 ?_
      refine z_goto X (tgt := 39) dX3_moment_32 (by decide) ?_
      refine z_lret X (Nat.le_of_ble_eq_true rfl) (Nat.le_of_ble_eq_true rfl) ?_ dX3_moment_39
      exact ⟨by rw [if_pos c17, if_pos c25], rfl, rfl⟩
  · refine z_ldc2 X dX3_moment_20 q_197 ?_
    refine z_lret X (Nat.le_of_ble_eq_true rfl) (Nat.le_of_ble_eq_true rfl) ?_ dX3_moment_23
    exact ⟨by rw [if_neg c17], rfl, rfl⟩
set_option maxHeartbeats 4000000 in
set_option maxRecDepth 100000 in
theorem p_moment_o (l : Launch) (G : va_G) (cy : Nat → ClassId) (B : Nat) (ad : Nat → Nat) (cn : Nat → Nat) (u : Nat → Nat → Int32) (w : Nat → Nat → Int64) (x : Nat → Nat → UInt64) (r : Nat → Nat → Option Nat) (hI : CI ad cn r) (b : Int32) (hb : ¬ (¬ b < 0 ∧ ¬ nI (cn 14) ≤ b)) (pt : Int32) : Ct l G cy B yX3_moment cX3_moment 4 (some .long) ({ frames := 1, cells := 0, slots := 0, locals := 21 } : Room) ad (CF cy ad cn u w x r) [.ref (ad 0), .int b, .int pt] (fun v ad' f' => v = some (.long (-1)) ∧ ad = ad' ∧ CF cy ad cn u w x r = f') := by
  refine ct_of (by decide +kernel) (Nat.le_of_ble_eq_true rfl) ?_
  intro p e s m args below meth c X hnm
  have hI0 := hI
  obtain ⟨⟨hc3, hc4, hc6, hc9, hc12, hc14⟩, ⟨h30, h31, h32⟩, hr6, hr12, hr14⟩ := hI0
  refine z_lv (lv' := [(0, .ref (ad 0)), (1, .int b), (2, .int pt)]) [0, 1, 2] rfl ?_
  refine z_aload_n X 0 dX3_moment_0 rfl rfl ?_
  refine z_iload_n X 1 dX3_moment_1 rfl rfl ?_
  refine z_callV X (n := 1) (As := [.int b]) (rest := []) 0 rfl (CF_at (k := 0) rfl rfl rfl rfl rfl) rfl (p_findLorry_o l G cy B ad cn u w x r hI b hb) q_356 q_357 q_10 q_24 q_358 (by decide +kernel) ⟨Nat.le_of_ble_eq_true rfl, Nat.le_of_ble_eq_true rfl⟩ rfl rfl (Nat.le_of_ble_eq_true rfl) dX3_moment_2 ⟨Nat.le_of_ble_eq_true rfl, Nat.le_of_ble_eq_true rfl⟩ (fun v ad' f' hp had => ?_)
  obtain ⟨rfl, rfl, rfl⟩ := hp
  refine z_st (st' := [.null]) rfl ?_
  refine z_astore_nN X (lv' := [(3, .null), (0, .ref (ad 0)), (1, .int b), (2, .int pt)]) dX3_moment_5 rfl (by decide) rfl ?_
  refine z_aload_nN X 0 dX3_moment_6 rfl rfl ?_
  refine z_ifnullN X (tgt := 20) dX3_moment_7 (by decide) ?_
  refine z_ldc2 X dX3_moment_20 q_197 ?_
  refine z_lret X (Nat.le_of_ble_eq_true rfl) (Nat.le_of_ble_eq_true rfl) ?_ dX3_moment_23
  exact ⟨rfl, rfl, rfl⟩
