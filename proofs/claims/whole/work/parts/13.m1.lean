/-! THE REFERENCE, as functions of its world -/
abbrev okKind (k : Int32) : Prop := ¬ k < 0 ∧ ¬ nI 4 ≤ k
abbrev okFeedM (cn : Nat → Nat) (w : Nat → Nat → Int64) (s : Int64) (k : Int32) (g : Int64) : Prop := cn 0 ≠ 200 ∧ okKind k ∧ (0 ≤ s ∧ s ≤ 8000000000) ∧ (1 ≤ g ∧ g ≤ 1000000) ∧ ¬ (0 < cn 0 ∧ s < w 1 (cn 0 - 1))
def anyB (p : Nat → Bool) : Nat → Bool
  | 0 => false
  | n + 1 => anyB p n || p n
theorem anyB_f {P : Nat → Prop} [DecidablePred P] {i : Nat} (h0 : ¬ anyB (fun f => decide (P f)) i = true) (h : ¬ P i) : 0 = (if anyB (fun f => decide (P f)) (i + 1) = true then 1 else 0 : Nat) := (if_neg (fun q => by
  unfold anyB at q
  rcases (Bool.or_eq_true _ _).mp q with z | z
  · exact h0 z
  · exact h (of_decide_eq_true z))).symm
theorem anyB_t {P : Nat → Prop} [DecidablePred P] {i : Nat} (h : P i) : 1 = (if anyB (fun f => decide (P f)) (i + 1) = true then 1 else 0 : Nat) := (if_pos (by
  unfold anyB
  rw [Bool.or_eq_true]
  exact Or.inr (decide_eq_true h))).symm
theorem anyB_k {P : Nat → Prop} [DecidablePred P] {i : Nat} (h : anyB (fun f => decide (P f)) i = true) : 1 = (if anyB (fun f => decide (P f)) (i + 1) = true then 1 else 0 : Nat) := (if_pos (by
  unfold anyB
  rw [Bool.or_eq_true]
  exact Or.inl h)).symm
def hStep (fo so : Nat → Int32) (s : Int32) (b : Nat) : Int32 := if (s >>> (nI b &&& 31)) &&& nI 1 = nI 1 ∧ ¬ fo b < 0 then s ||| ((nI 1 <<< (fo b &&& 31)) ||| (nI 1 <<< (so b &&& 31))) else s
def hLoop (fo so : Nat → Int32) : Nat → Int32 → Int32
  | 0, s => s
  | n + 1, s => hLoop fo so n (hStep fo so s n)
abbrev hasI (fo so : Nat → Int32) (j : Nat) (t : Int32) : Prop := (hLoop fo so (j + 1) (nI 1 <<< (nI j &&& 31)) >>> (t &&& 31)) &&& nI 1 = nI 1
theorem hStep_t {fo so : Nat → Int32} {s : Int32} {b : Nat} (h1 : (s >>> (nI b &&& 31)) &&& nI 1 = nI 1) (h2 : ¬ fo b < 0) : s ||| ((nI 1 <<< (fo b &&& 31)) ||| (nI 1 <<< (so b &&& 31))) = hStep fo so s b := (if_pos ⟨h1, h2⟩).symm
theorem hStep_f {fo so : Nat → Int32} {s : Int32} {b : Nat} (h : ¬ ((s >>> (nI b &&& 31)) &&& nI 1 = nI 1 ∧ ¬ fo b < 0)) : s = hStep fo so s b := (if_neg h).symm
theorem sumL_t {P : Nat → Prop} [DecidablePred P] {g : Nat → Int64} {i : Nat} {s : Int64} (hs : s = sumL (fun f => if P f then g f else 0) i) (h : P i) : s + g i = sumL (fun f => if P f then g f else 0) (i + 1) := by
  rw [hs]
  exact congrArg (fun z => sumL (fun f => if P f then g f else 0) i + z) (if_pos h).symm
theorem sumL_f {P : Nat → Prop} [DecidablePred P] {g : Nat → Int64} {i : Nat} {s : Int64} (hs : s = sumL (fun f => if P f then g f else 0) i) (h : ¬ P i) : s + 0 = sumL (fun f => if P f then g f else 0) (i + 1) := by
  rw [hs]
  exact congrArg (fun z => sumL (fun f => if P f then g f else 0) i + z) (if_neg h).symm
def gramsM (cn : Nat → Nat) (u : Nat → Nat → Int32) (w : Nat → Nat → Int64) (j : Nat) (k : Int32) : Int64 := sumL (fun f => if ¬ u 4 f < 0 ∧ u 2 f = k ∧ hasI (u 12) (u 13) j (u 4 f) then w 3 f else 0) (cn 0)
def weightM (cn : Nat → Nat) (u : Nat → Nat → Int32) (w : Nat → Nat → Int64) (j : Nat) : Int64 := sumL (fun k => gramsM cn u w j (nI k)) 4
def mainL (g : Nat → Int64) : Nat → Nat
  | 0 => 0
  | n + 1 => if g (mainL g n) < g (n + 1) then n + 1 else mainL g n
theorem mainL_le (g : Nat → Int64) : ∀ n, mainL g n ≤ n
  | 0 => Nat.le_refl 0
  | n + 1 => by
    unfold mainL
    have := mainL_le g n
    split <;> omega
def mainM (cn : Nat → Nat) (u : Nat → Nat → Int32) (w : Nat → Nat → Int64) (j : Nat) : Nat := mainL (fun k => gramsM cn u w j (nI k)) 3
def countM (cn : Nat → Nat) (u : Nat → Nat → Int32) (w : Nat → Nat → Int64) (k : Int32) : Int64 := sumL (fun f => if u 4 f < 0 ∧ u 2 f = k then w 3 f else 0) (cn 0)
def wiresOf (t : Int64) : Int32 := if t < 3 then nI 3 else t.toInt32
def sizeR (t : Int64) (p r : UInt64) : Prop := ∃ a b c, alike64 a (FP.dmul (FP.l2d t) 4562254508917369340) = true ∧ alike64 b (FP.ddiv a p) = true ∧ alike64 c (FP.dmul b 4593671619917905920) = true ∧ alike64 r (FP.dadd b c) = true
abbrev mkU (u : Nat → Nat → Int32) (n : Nat) : Nat → Nat → Int32 := va_up (va_up (va_up (va_up (va_up u 6 (upd (u 6) n (nI 0))) 12 (upd (u 12) n (-1))) 13 (upd (u 13) n (-1))) 10 (upd (u 10) n (-1))) 11 (upd (u 11) n (-1))
abbrev mkX (x : Nat → Nat → UInt64) (n : Nat) : Nat → Nat → UInt64 := va_up x 7 (vf_upd (x 7) n 4626322717216342016)
abbrev looseM (u : Nat → Nat → Int32) (w : Nat → Nat → Int64) (s : Int64) (f : Nat) : Prop := u 4 f < 0 ∧ w 1 f ≤ s
def intoM (u : Nat → Nat → Int32) (w : Nat → Nat → Int64) (nb : Nat) (s : Int64) (n : Nat) : Nat → Int32 := fun f => if f < n ∧ looseM u w s f then nI nb else u 4 f
theorem intoM_0 {u : Nat → Nat → Int32} {w : Nat → Nat → Int64} {nb : Nat} {s : Int64} : intoM u w nb s 0 = u 4 := by
  funext f
  unfold intoM
  rw [if_neg (fun h => absurd h.1 (Nat.not_lt_zero f))]
theorem intoM_at {u : Nat → Nat → Int32} {w : Nat → Nat → Int64} {nb : Nat} {s : Int64} {n : Nat} : intoM u w nb s n n = u 4 n := by
  unfold intoM
  rw [if_neg (fun h => absurd h.1 (Nat.lt_irrefl n))]
theorem intoM_s {u : Nat → Nat → Int32} {w : Nat → Nat → Int64} {nb : Nat} {s : Int64} {n : Nat} (h : looseM u w s n) : upd (intoM u w nb s n) n (nI nb) = intoM u w nb s (n + 1) := by
  funext f
  unfold upd intoM
  by_cases e : f = n
  · subst e
    simp [h]
  · by_cases e2 : f < n
    · have : f < n + 1 := by omega
      simp [e, e2, this]
    · have : ¬ f < n + 1 := by omega
      simp [e, e2, this]
theorem intoM_n {u : Nat → Nat → Int32} {w : Nat → Nat → Int64} {nb : Nat} {s : Int64} {n : Nat} (h : ¬ looseM u w s n) : upd (intoM u w nb s n) n (intoM u w nb s n n) = intoM u w nb s (n + 1) := by
  rw [intoM_at]
  funext f
  unfold upd intoM
  by_cases e : f = n
  · subst e
    simp [h]
  · by_cases e2 : f < n
    · have : f < n + 1 := by omega
      simp [e, e2, this]
    · have : ¬ f < n + 1 := by omega
      simp [e, e2, this]
set_option maxHeartbeats 4000000 in
set_option maxRecDepth 100000 in
theorem m_isBale (l : Launch) (G : va_G) (cy : Nat → ClassId) (B : Nat) (ad : Nat → Nat) (cn : Nat → Nat) (u : Nat → Nat → Int32) (w : Nat → Nat → Int64) (x : Nat → Nat → UInt64) (b : Int32) : Ct l G cy B yX4_isBale cX4_isBale 2 (some .boolean) ({ frames := 0, cells := 0, slots := 0, locals := 0 } : Room) ad (MF cy ad cn u w x) [.ref (ad 0), .int b] (fun v ad' f' => v = some (.int (nI (if ¬ b < 0 ∧ ¬ nI (cn 5) ≤ b then 1 else 0))) ∧ ad = ad' ∧ MF cy ad cn u w x = f') := by
  refine ct_of (by decide +kernel) (Nat.le_of_ble_eq_true rfl) ?_
  intro p e s m args below meth c X hnm
  refine z_lv (lv' := [(0, .ref (ad 0)), (1, .int b)]) [0, 1] rfl ?_
  refine z_iload_n X 1 dX4_isBale_0 rfl rfl ?_
  refine z_if_lt X (tgt := 16) dX4_isBale_1 (by decide) (fun c1 => ?_) (fun c1 => ?_)
  · refine z_iconst X (v := nI 0) dX4_isBale_16 (by decide) ?_
    refine z_zret rfl X (Nat.le_of_ble_eq_true rfl) (Nat.le_of_ble_eq_true rfl) ?_ dX4_isBale_17
    exact ⟨by simp_all, rfl, rfl⟩
  · refine z_iload_n X 1 dX4_isBale_4 rfl rfl ?_
    refine z_aload_n X 0 dX4_isBale_5 rfl rfl ?_
    refine z_get X (v := .int (nI (cn 5))) 0 5 wa_X4 rfl rfl rfl (by decide) q_564 rfl rfl dX4_isBale_6 ?_
    refine z_icmp_ge X (tgt := 16) dX4_isBale_9 (by decide) (fun c9 => ?_) (fun c9 => ?_)
    · refine z_iconst X (v := nI 0) dX4_isBale_16 (by decide) ?_
      refine z_zret rfl X (Nat.le_of_ble_eq_true rfl) (Nat.le_of_ble_eq_true rfl) ?_ dX4_isBale_17
      exact ⟨by simp_all, rfl, rfl⟩
    · refine z_iconst X (v := nI 1) dX4_isBale_12 (by decide) ?_
      refine z_goto X (tgt := 17) dX4_isBale_13 (by decide) ?_
      refine z_zret rfl X (Nat.le_of_ble_eq_true rfl) (Nat.le_of_ble_eq_true rfl) ?_ dX4_isBale_17
      exact ⟨by simp_all, rfl, rfl⟩
set_option maxHeartbeats 4000000 in
set_option maxRecDepth 100000 in
theorem m_feed (l : Launch) (G : va_G) (cy : Nat → ClassId) (B : Nat) (ad : Nat → Nat) (cn : Nat → Nat) (u : Nat → Nat → Int32) (w : Nat → Nat → Int64) (x : Nat → Nat → UInt64) (hc0 : cn 0 ≤ 200) (sc : Int64) (k : Int32) (g : Int64) : Ct l G cy B yX4_feed cX4_feed 6 (some .boolean) ({ frames := 1, cells := 0, slots := 0, locals := 25 } : Room) ad (MF cy ad cn u w x) [.ref (ad 0), .long sc, .int k, .long g] (fun v ad' f' => v = some (.int (nI (if okFeedM cn w sc k g then 1 else 0))) ∧ ad = ad' ∧ (if okFeedM cn w sc k g then MF cy ad (va_up cn 0 (cn 0 + 1)) (va_up (va_up u 2 (upd (u 2) (cn 0) k)) 4 (upd (u 4) (cn 0) (-1))) (va_up (va_up w 1 (vp_updL (w 1) (cn 0) sc)) 3 (vp_updL (w 3) (cn 0) g)) x else MF cy ad cn u w x) = f') := by
  refine ct_of (by decide +kernel) (Nat.le_of_ble_eq_true rfl) ?_
  intro p e s m args below meth c X hnm
  refine z_lv (lv' := [(0, .ref (ad 0)), (1, .long sc), (3, .int k), (4, .long g)]) [0, 1, 2, 3] rfl ?_
  refine z_aload_n X 0 dX4_feed_0 rfl rfl ?_
  refine z_get X (v := .int (nI (cn 0))) 0 0 wa_X4 rfl rfl rfl (by decide) q_559 rfl rfl dX4_feed_1 ?_
  refine z_sipush X (v := nI 200) dX4_feed_4 (by decide) ?_
  refine z_icmp_eqN X (tgt := 63) (by omega) (by omega) dX4_feed_7 (by decide) (fun c7 => ?_) (fun c7 => ?_)
  · refine z_iconst X (v := nI 0) dX4_feed_63 (by decide) ?_
    refine z_zret rfl X (Nat.le_of_ble_eq_true rfl) (Nat.le_of_ble_eq_true rfl) ?_ dX4_feed_64
    have h9 : ¬ okFeedM cn w sc k g := fun h9 => h9.1 c7
    exact ⟨by rw [if_neg h9], rfl, by rw [if_neg h9]⟩
  · refine z_iload_n X 2 dX4_feed_10 rfl rfl ?_
    refine z_callS X (n := 1) (As := [.int k]) (rest := []) (c_X4_isKind l G cy B ad (MF cy ad cn u w x) k) q_648 q_649 q_29 q_650 (by decide +kernel) ⟨Nat.le_of_ble_eq_true rfl, Nat.le_of_ble_eq_true rfl⟩ rfl rfl (Nat.le_of_ble_eq_true rfl) dX4_feed_11 ⟨Nat.le_of_ble_eq_true rfl, Nat.le_of_ble_eq_true rfl⟩ (fun v ad' f' hp had => ?_)
    obtain ⟨rfl, rfl, rfl⟩ := hp
    refine z_st (st' := [.int (nI (if okKind k then 1 else 0))]) rfl ?_
    refine z_if_eqB X (tgt := 63) dX4_feed_14 (by decide) (fun c14 => ?_) (fun c14 => ?_)
    · refine z_iconst X (v := nI 0) dX4_feed_63 (by decide) ?_
      refine z_zret rfl X (Nat.le_of_ble_eq_true rfl) (Nat.le_of_ble_eq_true rfl) ?_ dX4_feed_64
      have h9 : ¬ okFeedM cn w sc k g := fun h9 => c14 h9.2.1
      exact ⟨by rw [if_neg h9], rfl, by rw [if_neg h9]⟩
    · refine z_lload_n X 1 dX4_feed_17 rfl rfl ?_
      refine z_lconst X (v := 0) dX4_feed_18 rfl ?_
      refine z_ldc2 X dX4_feed_19 q_651 ?_
      refine z_callS X (n := 3) (As := [.long sc, .long 0, .long 8000000000]) (rest := []) (c_X4_isIn l G cy B ad (MF cy ad cn u w x) sc 0 8000000000) q_652 q_653 q_29 q_654 (by decide +kernel) ⟨Nat.le_of_ble_eq_true rfl, Nat.le_of_ble_eq_true rfl⟩ rfl rfl (Nat.le_of_ble_eq_true rfl) dX4_feed_22 ⟨Nat.le_of_ble_eq_true rfl, Nat.le_of_ble_eq_true rfl⟩ (fun v ad' f' hp had => ?_)
      obtain ⟨rfl, rfl, rfl⟩ := hp
      refine z_st (st' := [.int (nI (if 0 ≤ sc ∧ sc ≤ 8000000000 then 1 else 0))]) rfl ?_
      refine z_if_eqB X (tgt := 63) dX4_feed_25 (by decide) (fun c25 => ?_) (fun c25 => ?_)
      · refine z_iconst X (v := nI 0) dX4_feed_63 (by decide) ?_
        refine z_zret rfl X (Nat.le_of_ble_eq_true rfl) (Nat.le_of_ble_eq_true rfl) ?_ dX4_feed_64
        have h9 : ¬ okFeedM cn w sc k g := fun h9 => c25 h9.2.2.1
        exact ⟨by rw [if_neg h9], rfl, by rw [if_neg h9]⟩
      · refine z_lload X 3 dX4_feed_28 rfl ?_
        refine z_lconst X (v := 1) dX4_feed_30 rfl ?_
        refine z_ldc2 X dX4_feed_31 q_655 ?_
        refine z_callS X (n := 3) (As := [.long g, .long 1, .long 1000000]) (rest := []) (c_X4_isIn l G cy B ad (MF cy ad cn u w x) g 1 1000000) q_652 q_653 q_29 q_654 (by decide +kernel) ⟨Nat.le_of_ble_eq_true rfl, Nat.le_of_ble_eq_true rfl⟩ rfl rfl (Nat.le_of_ble_eq_true rfl) dX4_feed_34 ⟨Nat.le_of_ble_eq_true rfl, Nat.le_of_ble_eq_true rfl⟩ (fun v ad' f' hp had => ?_)
        obtain ⟨rfl, rfl, rfl⟩ := hp
        refine z_st (st' := [.int (nI (if 1 ≤ g ∧ g ≤ 1000000 then 1 else 0))]) rfl ?_
        refine z_if_eqB X (tgt := 63) dX4_feed_37 (by decide) (fun c37 => ?_) (fun c37 => ?_)
        · refine z_iconst X (v := nI 0) dX4_feed_63 (by decide) ?_
          refine z_zret rfl X (Nat.le_of_ble_eq_true rfl) (Nat.le_of_ble_eq_true rfl) ?_ dX4_feed_64
          have h9 : ¬ okFeedM cn w sc k g := fun h9 => c37 h9.2.2.2.1
          exact ⟨by rw [if_neg h9], rfl, by rw [if_neg h9]⟩
        · refine z_aload_n X 0 dX4_feed_40 rfl rfl ?_
          refine z_get X (v := .int (nI (cn 0))) 0 0 wa_X4 rfl rfl rfl (by decide) q_559 rfl rfl dX4_feed_41 ?_
          refine z_if_leN X (tgt := 65) (by omega) dX4_feed_44 (by decide) (fun c44 => ?_) (fun c44 => ?_)
          · refine z_aload_n X 0 dX4_feed_65 rfl rfl ?_
            refine z_get X (v := .ref (ad 1)) 0 1 wa_X4 rfl rfl rfl (by decide) q_560 rfl rfl dX4_feed_66 ?_
            refine z_aload_n X 0 dX4_feed_69 rfl rfl ?_
            refine z_get X (v := .int (nI (cn 0))) 0 0 wa_X4 rfl rfl rfl (by decide) q_559 rfl rfl dX4_feed_70 ?_
            refine z_lload_n X 1 dX4_feed_73 rfl rfl ?_
            refine z_lastN X (n := 200) (g := w 1) 1 rfl rfl (by omega) (by decide) dX4_feed_74 ?_
            refine z_f (MF_w 1 200 rfl (by decide) _) ?_
            refine z_aload_n X 0 dX4_feed_75 rfl rfl ?_
            refine z_get X (v := .ref (ad 2)) 0 2 wa_X4 rfl rfl rfl (by decide) q_561 rfl rfl dX4_feed_76 ?_
            refine z_aload_n X 0 dX4_feed_79 rfl rfl ?_
            refine z_get X (v := .int (nI (cn 0))) 0 0 wa_X4 rfl rfl rfl (by decide) q_559 rfl rfl dX4_feed_80 ?_
            refine z_iload_n X 2 dX4_feed_83 rfl rfl ?_
            refine z_iastN X (n := 200) (g := u 2) 2 rfl rfl (by omega) (by decide) dX4_feed_84 ?_
            refine z_f (MF_u 2 200 rfl (by decide) _) ?_
            refine z_aload_n X 0 dX4_feed_85 rfl rfl ?_
            refine z_get X (v := .ref (ad 3)) 0 3 wa_X4 rfl rfl rfl (by decide) q_562 rfl rfl dX4_feed_86 ?_
            refine z_aload_n X 0 dX4_feed_89 rfl rfl ?_
            refine z_get X (v := .int (nI (cn 0))) 0 0 wa_X4 rfl rfl rfl (by decide) q_559 rfl rfl dX4_feed_90 ?_
            refine z_lload X 3 dX4_feed_93 rfl ?_
            refine z_lastN X (n := 200) (g := w 3) 3 rfl rfl (by omega) (by decide) dX4_feed_95 ?_
            refine z_f (MF_w 3 200 rfl (by decide) _) ?_
            refine z_aload_n X 0 dX4_feed_96 rfl rfl ?_
            refine z_get X (v := .ref (ad 4)) 0 4 wa_X4 rfl rfl rfl (by decide) q_563 rfl rfl dX4_feed_97 ?_
            refine z_aload_n X 0 dX4_feed_100 rfl rfl ?_
            refine z_get X (v := .int (nI (cn 0))) 0 0 wa_X4 rfl rfl rfl (by decide) q_559 rfl rfl dX4_feed_101 ?_
            refine z_iconst X (v := -1) dX4_feed_104 (by decide) ?_
            refine z_iastN X (n := 200) (g := u 4) 4 rfl rfl (by omega) (by decide) dX4_feed_105 ?_
            refine z_f (MF_u 4 200 rfl (by decide) _) ?_
            refine z_aload_n X 0 dX4_feed_106 rfl rfl ?_
            refine z_dup X dX4_feed_107 rfl ?_
            refine z_get X (v := .int (nI (cn 0))) 0 0 wa_X4 rfl rfl rfl (by decide) q_559 rfl rfl dX4_feed_108 ?_
            refine z_iconst X (v := nI 1) dX4_feed_111 (by decide) ?_
            refine z_iaddN X dX4_feed_112 ?_
            refine z_put X (ty := .int) 0 0 wa_X4 tyX4 tyX4_ok nmX4 rfl rfl rfl (by decide) q_559 rfl rfl (by decide +kernel) rfl rfl (Nat.le_of_ble_eq_true rfl) dX4_feed_113 ?_
            refine z_f (MF_c (cn' := va_up cn 0 ((cn 0) + 1)) rfl) ?_
            refine z_iconst X (v := nI 1) dX4_feed_116 (by decide) ?_
            refine z_zret rfl X (Nat.le_of_ble_eq_true rfl) (Nat.le_of_ble_eq_true rfl) ?_ dX4_feed_117
            have h9 : okFeedM cn w sc k g := ⟨c7, c14, c25, c37, fun h => absurd h.1 (by omega)⟩
            exact ⟨by rw [if_pos h9], rfl, by rw [if_pos h9]⟩
          · refine z_lload_n X 1 dX4_feed_47 rfl rfl ?_
            refine z_aload_n X 0 dX4_feed_48 rfl rfl ?_
            refine z_get X (v := .ref (ad 1)) 0 1 wa_X4 rfl rfl rfl (by decide) q_560 rfl rfl dX4_feed_49 ?_
            refine z_aload_n X 0 dX4_feed_52 rfl rfl ?_
            refine z_get X (v := .int (nI (cn 0))) 0 0 wa_X4 rfl rfl rfl (by decide) q_559 rfl rfl dX4_feed_53 ?_
            refine z_iconst X (v := nI 1) dX4_feed_56 (by decide) ?_
            refine z_isubN X (by omega) dX4_feed_57 ?_
            refine z_laldN X (n := 200) (g := w 1) 1 rfl rfl (by omega) (by decide) dX4_feed_58 ?_
            refine z_lcmp_ge X (tgt := 65) dX4_feed_59 dX4_feed_60 (by decide) (fun c59 => ?_) (fun c59 => ?_)
            · refine z_aload_n X 0 dX4_feed_65 rfl rfl ?_
              refine z_get X (v := .ref (ad 1)) 0 1 wa_X4 rfl rfl rfl (by decide) q_560 rfl rfl dX4_feed_66 ?_
              refine z_aload_n X 0 dX4_feed_69 rfl rfl ?_
              refine z_get X (v := .int (nI (cn 0))) 0 0 wa_X4 rfl rfl rfl (by decide) q_559 rfl rfl dX4_feed_70 ?_
              refine z_lload_n X 1 dX4_feed_73 rfl rfl ?_
              refine z_lastN X (n := 200) (g := w 1) 1 rfl rfl (by omega) (by decide) dX4_feed_74 ?_
              refine z_f (MF_w 1 200 rfl (by decide) _) ?_
              refine z_aload_n X 0 dX4_feed_75 rfl rfl ?_
              refine z_get X (v := .ref (ad 2)) 0 2 wa_X4 rfl rfl rfl (by decide) q_561 rfl rfl dX4_feed_76 ?_
              refine z_aload_n X 0 dX4_feed_79 rfl rfl ?_
              refine z_get X (v := .int (nI (cn 0))) 0 0 wa_X4 rfl rfl rfl (by decide) q_559 rfl rfl dX4_feed_80 ?_
              refine z_iload_n X 2 dX4_feed_83 rfl rfl ?_
              refine z_iastN X (n := 200) (g := u 2) 2 rfl rfl (by omega) (by decide) dX4_feed_84 ?_
              refine z_f (MF_u 2 200 rfl (by decide) _) ?_
              refine z_aload_n X 0 dX4_feed_85 rfl rfl ?_
              refine z_get X (v := .ref (ad 3)) 0 3 wa_X4 rfl rfl rfl (by decide) q_562 rfl rfl dX4_feed_86 ?_
              refine z_aload_n X 0 dX4_feed_89 rfl rfl ?_
              refine z_get X (v := .int (nI (cn 0))) 0 0 wa_X4 rfl rfl rfl (by decide) q_559 rfl rfl dX4_feed_90 ?_
              refine z_lload X 3 dX4_feed_93 rfl ?_
              refine z_lastN X (n := 200) (g := w 3) 3 rfl rfl (by omega) (by decide) dX4_feed_95 ?_
              refine z_f (MF_w 3 200 rfl (by decide) _) ?_
              refine z_aload_n X 0 dX4_feed_96 rfl rfl ?_
              refine z_get X (v := .ref (ad 4)) 0 4 wa_X4 rfl rfl rfl (by decide) q_563 rfl rfl dX4_feed_97 ?_
              refine z_aload_n X 0 dX4_feed_100 rfl rfl ?_
              refine z_get X (v := .int (nI (cn 0))) 0 0 wa_X4 rfl rfl rfl (by decide) q_559 rfl rfl dX4_feed_101 ?_
              refine z_iconst X (v := -1) dX4_feed_104 (by decide) ?_
              refine z_iastN X (n := 200) (g := u 4) 4 rfl rfl (by omega) (by decide) dX4_feed_105 ?_
              refine z_f (MF_u 4 200 rfl (by decide) _) ?_
              refine z_aload_n X 0 dX4_feed_106 rfl rfl ?_
              refine z_dup X dX4_feed_107 rfl ?_
              refine z_get X (v := .int (nI (cn 0))) 0 0 wa_X4 rfl rfl rfl (by decide) q_559 rfl rfl dX4_feed_108 ?_
              refine z_iconst X (v := nI 1) dX4_feed_111 (by decide) ?_
              refine z_iaddN X dX4_feed_112 ?_
              refine z_put X (ty := .int) 0 0 wa_X4 tyX4 tyX4_ok nmX4 rfl rfl rfl (by decide) q_559 rfl rfl (by decide +kernel) rfl rfl (Nat.le_of_ble_eq_true rfl) dX4_feed_113 ?_
              refine z_f (MF_c (cn' := va_up cn 0 ((cn 0) + 1)) rfl) ?_
              refine z_iconst X (v := nI 1) dX4_feed_116 (by decide) ?_
              refine z_zret rfl X (Nat.le_of_ble_eq_true rfl) (Nat.le_of_ble_eq_true rfl) ?_ dX4_feed_117
              have h9 : okFeedM cn w sc k g := ⟨c7, c14, c25, c37, fun h => absurd h.2 (Int64.not_lt.mpr c59)⟩
              exact ⟨by rw [if_pos h9], rfl, by rw [if_pos h9]⟩
            · refine z_iconst X (v := nI 0) dX4_feed_63 (by decide) ?_
              refine z_zret rfl X (Nat.le_of_ble_eq_true rfl) (Nat.le_of_ble_eq_true rfl) ?_ dX4_feed_64
              have h9 : ¬ okFeedM cn w sc k g := fun h9 => h9.2.2.2.2 ⟨c44, Int64.not_le.mp c59⟩
              exact ⟨by rw [if_neg h9], rfl, by rw [if_neg h9]⟩
set_option maxHeartbeats 4000000 in
set_option maxRecDepth 100000 in
theorem m_make (l : Launch) (G : va_G) (cy : Nat → ClassId) (B : Nat) (ad : Nat → Nat) (cn : Nat → Nat) (u : Nat → Nat → Int32) (w : Nat → Nat → Int64) (x : Nat → Nat → UInt64) (hc5 : cn 5 < 12) : Ct l G cy B yX4_make cX4_make 1 (some .int) ({ frames := 0, cells := 0, slots := 0, locals := 0 } : Room) ad (MF cy ad cn u w x) [.ref (ad 0)] (fun v ad' f' => v = some (.int (nI (cn 5))) ∧ ad = ad' ∧ MF cy ad (va_up cn 5 (cn 5 + 1)) (mkU u (cn 5)) w (mkX x (cn 5)) = f') := by
  refine ct_of (by decide +kernel) (Nat.le_of_ble_eq_true rfl) ?_
  intro p e s m args below meth c X hnm
  refine z_lv (lv' := [(0, .ref (ad 0))]) [0] rfl ?_
  refine z_aload_n X 0 dX4_make_0 rfl rfl ?_
  refine z_get X (v := .ref (ad 6)) 0 6 wa_X4 rfl rfl rfl (by decide) q_565 rfl rfl dX4_make_1 ?_
  refine z_aload_n X 0 dX4_make_4 rfl rfl ?_
  refine z_get X (v := .int (nI (cn 5))) 0 5 wa_X4 rfl rfl rfl (by decide) q_564 rfl rfl dX4_make_5 ?_
  refine z_iconst X (v := nI 0) dX4_make_8 (by decide) ?_
  refine z_iastN X (n := 12) (g := u 6) 6 rfl rfl (by omega) (by decide) dX4_make_9 ?_
  refine z_f (MF_u 6 12 rfl (by decide) _) ?_
  refine z_aload_n X 0 dX4_make_10 rfl rfl ?_
  refine z_get X (v := .ref (ad 7)) 0 7 wa_X4 rfl rfl rfl (by decide) q_566 rfl rfl dX4_make_11 ?_
  refine z_aload_n X 0 dX4_make_14 rfl rfl ?_
  refine z_get X (v := .int (nI (cn 5))) 0 5 wa_X4 rfl rfl rfl (by decide) q_564 rfl rfl dX4_make_15 ?_
  refine z_ldc2d X dX4_make_18 q_663 ?_
  refine z_dastN X (n := 12) (g := x 7) 7 rfl rfl (by omega) (by decide) dX4_make_21 ?_
  refine z_f (MF_x 7 12 rfl (by decide) _) ?_
  refine z_aload_n X 0 dX4_make_22 rfl rfl ?_
  refine z_get X (v := .ref (ad 12)) 0 12 wa_X4 rfl rfl rfl (by decide) q_571 rfl rfl dX4_make_23 ?_
  refine z_aload_n X 0 dX4_make_26 rfl rfl ?_
  refine z_get X (v := .int (nI (cn 5))) 0 5 wa_X4 rfl rfl rfl (by decide) q_564 rfl rfl dX4_make_27 ?_
  refine z_iconst X (v := -1) dX4_make_30 (by decide) ?_
  refine z_iastN X (n := 12) (g := u 12) 12 rfl rfl (by omega) (by decide) dX4_make_31 ?_
  refine z_f (MF_u 12 12 rfl (by decide) _) ?_
  refine z_aload_n X 0 dX4_make_32 rfl rfl ?_
  refine z_get X (v := .ref (ad 13)) 0 13 wa_X4 rfl rfl rfl (by decide) q_572 rfl rfl dX4_make_33 ?_
  refine z_aload_n X 0 dX4_make_36 rfl rfl ?_
  refine z_get X (v := .int (nI (cn 5))) 0 5 wa_X4 rfl rfl rfl (by decide) q_564 rfl rfl dX4_make_37 ?_
  refine z_iconst X (v := -1) dX4_make_40 (by decide) ?_
  refine z_iastN X (n := 12) (g := u 13) 13 rfl rfl (by omega) (by decide) dX4_make_41 ?_
  refine z_f (MF_u 13 12 rfl (by decide) _) ?_
  refine z_aload_n X 0 dX4_make_42 rfl rfl ?_
  refine z_get X (v := .ref (ad 10)) 0 10 wa_X4 rfl rfl rfl (by decide) q_569 rfl rfl dX4_make_43 ?_
  refine z_aload_n X 0 dX4_make_46 rfl rfl ?_
  refine z_get X (v := .int (nI (cn 5))) 0 5 wa_X4 rfl rfl rfl (by decide) q_564 rfl rfl dX4_make_47 ?_
  refine z_iconst X (v := -1) dX4_make_50 (by decide) ?_
  refine z_iastN X (n := 12) (g := u 10) 10 rfl rfl (by omega) (by decide) dX4_make_51 ?_
  refine z_f (MF_u 10 12 rfl (by decide) _) ?_
  refine z_aload_n X 0 dX4_make_52 rfl rfl ?_
  refine z_get X (v := .ref (ad 11)) 0 11 wa_X4 rfl rfl rfl (by decide) q_570 rfl rfl dX4_make_53 ?_
  refine z_aload_n X 0 dX4_make_56 rfl rfl ?_
  refine z_get X (v := .int (nI (cn 5))) 0 5 wa_X4 rfl rfl rfl (by decide) q_564 rfl rfl dX4_make_57 ?_
  refine z_iconst X (v := -1) dX4_make_60 (by decide) ?_
  refine z_iastN X (n := 12) (g := u 11) 11 rfl rfl (by omega) (by decide) dX4_make_61 ?_
  refine z_f (MF_u 11 12 rfl (by decide) _) ?_
  refine z_aload_n X 0 dX4_make_62 rfl rfl ?_
  refine z_dup X dX4_make_63 rfl ?_
  refine z_get X (v := .int (nI (cn 5))) 0 5 wa_X4 rfl rfl rfl (by decide) q_564 rfl rfl dX4_make_64 ?_
  refine z_iconst X (v := nI 1) dX4_make_67 (by decide) ?_
  refine z_iaddN X dX4_make_68 ?_
  refine z_put X (ty := .int) 0 5 wa_X4 tyX4 tyX4_ok nmX4 rfl rfl rfl (by decide) q_564 rfl rfl (by decide +kernel) rfl rfl (Nat.le_of_ble_eq_true rfl) dX4_make_69 ?_
  refine z_f (MF_c (cn' := va_up cn 5 ((cn 5) + 1)) rfl) ?_
  refine z_aload_n X 0 dX4_make_72 rfl rfl ?_
  refine z_get X (v := .int (nI ((cn 5) + 1))) 0 5 wa_X4 rfl rfl rfl (by decide) q_564 rfl rfl dX4_make_73 ?_
  refine z_iconst X (v := nI 1) dX4_make_76 (by decide) ?_
  refine z_isubN X (by omega) dX4_make_77 ?_
  refine z_top (v' := .int (nI (cn 5))) (by rfl) ?_
  refine z_iret X (Nat.le_of_ble_eq_true rfl) (Nat.le_of_ble_eq_true rfl) ?_ dX4_make_78
  exact ⟨rfl, rfl, rfl⟩
set_option maxHeartbeats 4000000 in
set_option maxRecDepth 100000 in
theorem m_bale (l : Launch) (G : va_G) (cy : Nat → ClassId) (B : Nat) (ad : Nat → Nat) (cn : Nat → Nat) (u : Nat → Nat → Int32) (w : Nat → Nat → Int64) (x : Nat → Nat → UInt64) (hc0 : cn 0 ≤ 200) (hc5 : cn 5 ≤ 12) (sc : Int64) : Ct l G cy B yX4_bale cX4_bale 5 (some .int) ({ frames := 1, cells := 0, slots := 0, locals := 20 } : Room) ad (MF cy ad cn u w x) [.ref (ad 0), .long sc] (fun v ad' f' => v = some (.int (if (anyB (fun f => decide (looseM u w sc f)) (cn 0) = true ∧ cn 5 ≠ 12) then nI (cn 5) else -1)) ∧ ad = ad' ∧ (if (anyB (fun f => decide (looseM u w sc f)) (cn 0) = true ∧ cn 5 ≠ 12) then MF cy ad (va_up cn 5 (cn 5 + 1)) (mkU (va_up u 4 (intoM u w (cn 5) sc (cn 0))) (cn 5)) w (mkX x (cn 5)) else MF cy ad cn u w x) = f') := by
  refine ct_of (by decide +kernel) (Nat.le_of_ble_eq_true rfl) ?_
  intro p e s m args below meth c X hnm
  refine z_lv (lv' := [(0, .ref (ad 0)), (1, .long sc)]) [0, 1] rfl ?_
  refine z_iconst X (v := nI 0) dX4_bale_0 (by decide) ?_
  refine z_istore_n X (lv' := [(3, .int (nI 0)), (0, .ref (ad 0)), (1, .long sc)]) dX4_bale_1 rfl (by decide) rfl ?_
  refine z_iconst X (v := nI 0) dX4_bale_2 (by decide) ?_
  refine z_istore X (lv' := [(4, .int (nI 0)), (3, .int (nI 0)), (0, .ref (ad 0)), (1, .long sc)]) dX4_bale_3 (by decide) rfl ?_
  refine z_lv (lv' := [(0, .ref (ad 0)), (1, .long sc), (3, .int (nI 0)), (4, .int (nI 0))]) [2, 3, 1, 0] rfl ?_
  have lp5 : ∀ (fu5 : Nat) (i sv : Nat), (i ≤ cn 0) → (sv = if anyB (fun f => decide (looseM u w sc f)) i = true then 1 else 0) → cn 0 + 1 ≤ i + fu5 → Z G B 5 ad (MF cy ad cn u w x) p l e ({ frames := 1, cells := 0, slots := 0, locals := 20 } : Room) s m args below meth c (zEnd G B ad (MF cy ad cn u w x) below args s ({ frames := 1, cells := 0, slots := 0, locals := 20 } : Room) (fun v ad' f' => v = some (.int (if (anyB (fun f => decide (looseM u w sc f)) (cn 0) = true ∧ cn 5 ≠ 12) then nI (cn 5) else -1)) ∧ ad = ad' ∧ (if (anyB (fun f => decide (looseM u w sc f)) (cn 0) = true ∧ cn 5 ≠ 12) then MF cy ad (va_up cn 5 (cn 5 + 1)) (mkU (va_up u 4 (intoM u w (cn 5) sc (cn 0))) (cn 5)) w (mkX x (cn 5)) else MF cy ad cn u w x) = f')) ad (MF cy ad cn u w x) 0 0 5 [(0, .ref (ad 0)), (1, .long sc), (3, .int (nI sv)), (4, .int (nI i))] [] := by
    intro fu5
    induction fu5 with
    | zero => intro i sv hi hs hm5; exact absurd hm5 (by omega)
    | succ fu5 ih5 =>
      intro i sv hi hs hm5
      refine z_iload X 3 dX4_bale_5 rfl ?_
      refine z_aload_n X 0 dX4_bale_7 rfl rfl ?_
      refine z_get X (v := .int (nI (cn 0))) 0 0 wa_X4 rfl rfl rfl (by decide) q_559 rfl rfl dX4_bale_8 ?_
      refine z_icmp_geN X (tgt := 52) (by omega) (by omega) dX4_bale_11 (by decide) (fun c11 => ?_) (fun c11 => ?_)
      · obtain rfl : i = cn 0 := by omega
        refine z_iload_n X 2 dX4_bale_52 rfl rfl ?_
        refine z_if_eqN X (tgt := 65) (by rw [hs]; exact b01_lt) dX4_bale_53 (by decide) (fun c53 => ?_) (fun c53 => ?_)
        · refine z_iconst X (v := -1) dX4_bale_65 (by decide) ?_
          refine z_iret X (Nat.le_of_ble_eq_true rfl) (Nat.le_of_ble_eq_true rfl) ?_ dX4_bale_66
          have h9 : ¬ (anyB (fun f => decide (looseM u w sc f)) (cn 0) = true ∧ cn 5 ≠ 12) := fun h => absurd (if_pos h.1) (by rw [← hs]; omega)
          exact ⟨by rw [if_neg h9], rfl, by rw [if_neg h9]⟩
        · refine z_aload_n X 0 dX4_bale_56 rfl rfl ?_
          refine z_get X (v := .int (nI (cn 5))) 0 5 wa_X4 rfl rfl rfl (by decide) q_564 rfl rfl dX4_bale_57 ?_
          refine z_bipush X (v := nI 12) dX4_bale_60 (by decide) ?_
          refine z_icmp_neN X (tgt := 67) (by omega) (by omega) dX4_bale_62 (by decide) (fun c62 => ?_) (fun c62 => ?_)
          · refine z_iconst X (v := nI 0) dX4_bale_67 (by decide) ?_
            refine z_istore X (lv' := [(4, .int (nI 0)), (0, .ref (ad 0)), (1, .long sc), (3, .int (nI sv))]) dX4_bale_68 (by decide) rfl ?_
            refine z_lv (lv' := [(0, .ref (ad 0)), (1, .long sc), (4, .int (nI 0))]) [1, 2, 0] rfl ?_
            have lp70 : ∀ (fu70 : Nat) (i : Nat), (i ≤ cn 0) → cn 0 + 1 ≤ i + fu70 → Z G B 5 ad (MF cy ad cn u w x) p l e ({ frames := 1, cells := 0, slots := 0, locals := 20 } : Room) s m args below meth c (zEnd G B ad (MF cy ad cn u w x) below args s ({ frames := 1, cells := 0, slots := 0, locals := 20 } : Room) (fun v ad' f' => v = some (.int (if (anyB (fun f => decide (looseM u w sc f)) (cn 0) = true ∧ cn 5 ≠ 12) then nI (cn 5) else -1)) ∧ ad = ad' ∧ (if (anyB (fun f => decide (looseM u w sc f)) (cn 0) = true ∧ cn 5 ≠ 12) then MF cy ad (va_up cn 5 (cn 5 + 1)) (mkU (va_up u 4 (intoM u w (cn 5) sc (cn 0))) (cn 5)) w (mkX x (cn 5)) else MF cy ad cn u w x) = f')) ad (MF cy ad cn (va_up u 4 (intoM u w (cn 5) sc i)) w x) 0 0 70 [(0, .ref (ad 0)), (1, .long sc), (4, .int (nI i))] [] := by
              intro fu70
              induction fu70 with
              | zero => intro i hi2 hm70; exact absurd hm70 (by omega)
              | succ fu70 ih70 =>
                intro i hi2 hm70
                refine z_iload X 2 dX4_bale_70 rfl ?_
                refine z_aload_n X 0 dX4_bale_72 rfl rfl ?_
                refine z_get X (v := .int (nI (cn 0))) 0 0 wa_X4 rfl rfl rfl (by decide) q_559 rfl rfl dX4_bale_73 ?_
                refine z_icmp_geN X (tgt := 128) (by omega) (by omega) dX4_bale_76 (by decide) (fun c76 => ?_) (fun c76 => ?_)
                · refine z_aload_n X 0 dX4_bale_128 rfl rfl ?_
                  have e9 : i = cn 0 := by omega
                  subst e9
                  refine z_callV X (n := 0) (As := []) (rest := []) 0 rfl rfl rfl (m_make l G cy B ad cn (va_up u 4 (intoM u w (cn 5) sc (cn 0))) w x (by omega)) q_660 q_661 q_13 q_29 q_662 (by decide +kernel) ⟨Nat.le_of_ble_eq_true rfl, Nat.le_of_ble_eq_true rfl⟩ rfl rfl (Nat.le_of_ble_eq_true rfl) dX4_bale_129 ⟨Nat.le_of_ble_eq_true rfl, Nat.le_of_ble_eq_true rfl⟩ (fun v ad' f' hp had => ?_)
                  obtain ⟨rfl, rfl, rfl⟩ := hp
                  refine z_st (st' := [.int (nI (cn 5))]) rfl ?_
                  refine z_iret X (Nat.le_of_ble_eq_true rfl) (Nat.le_of_ble_eq_true rfl) ?_ dX4_bale_132
                  have h9 : (anyB (fun f => decide (looseM u w sc f)) (cn 0) = true ∧ cn 5 ≠ 12) := ⟨(b01_n (P := anyB (fun f => decide (looseM u w sc f)) (cn 0) = true)).mp (by rw [← hs]; exact c53), c62⟩
                  exact ⟨by rw [if_pos h9], rfl, by rw [if_pos h9]⟩
                · refine z_aload_n X 0 dX4_bale_79 rfl rfl ?_
                  refine z_get X (v := .ref (ad 4)) 0 4 wa_X4 rfl rfl rfl (by decide) q_563 rfl rfl dX4_bale_80 ?_
                  refine z_iload X 2 dX4_bale_83 rfl ?_
                  refine z_aload_n X 0 dX4_bale_85 rfl rfl ?_
                  refine z_get X (v := .ref (ad 4)) 0 4 wa_X4 rfl rfl rfl (by decide) q_563 rfl rfl dX4_bale_86 ?_
                  refine z_iload X 2 dX4_bale_89 rfl ?_
                  refine z_ialdN X (n := 200) (g := intoM u w (cn 5) sc i) 4 rfl rfl (by omega) (by decide) dX4_bale_91 ?_
                  refine z_if_ge X (tgt := 114) dX4_bale_92 (by decide) (fun c92 => ?_) (fun c92 => ?_)
                  · refine z_aload_n X 0 dX4_bale_114 rfl rfl ?_
                    refine z_get X (v := .ref (ad 4)) 0 4 wa_X4 rfl rfl rfl (by decide) q_563 rfl rfl dX4_bale_115 ?_
                    refine z_iload X 2 dX4_bale_118 rfl ?_
                    refine z_ialdN X (n := 200) (g := intoM u w (cn 5) sc i) 4 rfl rfl (by omega) (by decide) dX4_bale_120 ?_
                    refine z_iastN X (n := 200) (g := intoM u w (cn 5) sc i) 4 rfl rfl (by omega) (by decide) dX4_bale_121 ?_
                    refine z_f (MF_u 4 200 rfl (by decide) _) ?_
                    refine z_f (congrArg (fun z => MF cy ad cn z w x) (show va_up (va_up u 4 (intoM u w (cn 5) sc i)) 4 (upd (intoM u w (cn 5) sc i) i ((intoM u w (cn 5) sc i) i)) = va_up u 4 (upd (intoM u w (cn 5) sc i) i ((intoM u w (cn 5) sc i) i)) from by (try simp only [upd_uu, vfu_uu, vpu_uu]); funext z9; simp only [va_up]; (repeat' split) <;> first | rfl | omega | simp_all)) ?_
                    refine z_iincN X 2 (k := 1) (lv' := [(4, .int (nI (i + 1))), (0, .ref (ad 0)), (1, .long sc)]) dX4_bale_122 rfl (by decide) (by decide) rfl ?_
                    refine z_goto X (tgt := 70) dX4_bale_125 (by decide) ?_
                    refine z_lv (lv' := [(0, .ref (ad 0)), (1, .long sc), (4, .int (nI (i + 1)))]) [1, 2, 0] rfl ?_
                    refine z_f (congrArg (fun z => MF cy ad cn (va_up u 4 z) w x) (intoM_n (n := i) (fun h => by have h1 := h.1; rw [← (show intoM u w (cn 5) sc i i = u 4 i from intoM_at)] at h1; exact absurd c92 (Int32.not_le.mpr h1)))) ?_
                    exact ih70 (i + 1) (by omega) (by omega)
                  · refine z_aload_n X 0 dX4_bale_95 rfl rfl ?_
                    refine z_get X (v := .ref (ad 1)) 0 1 wa_X4 rfl rfl rfl (by decide) q_560 rfl rfl dX4_bale_96 ?_
                    refine z_iload X 2 dX4_bale_99 rfl ?_
                    refine z_laldN X (n := 200) (g := w 1) 1 rfl rfl (by omega) (by decide) dX4_bale_101 ?_
                    refine z_lload_n X 1 dX4_bale_102 rfl rfl ?_
                    refine z_lcmp_gt X (tgt := 114) dX4_bale_103 dX4_bale_104 (by decide) (fun c103 => ?_) (fun c103 => ?_)
                    · refine z_aload_n X 0 dX4_bale_114 rfl rfl ?_
                      refine z_get X (v := .ref (ad 4)) 0 4 wa_X4 rfl rfl rfl (by decide) q_563 rfl rfl dX4_bale_115 ?_
                      refine z_iload X 2 dX4_bale_118 rfl ?_
                      refine z_ialdN X (n := 200) (g := intoM u w (cn 5) sc i) 4 rfl rfl (by omega) (by decide) dX4_bale_120 ?_
                      refine z_iastN X (n := 200) (g := intoM u w (cn 5) sc i) 4 rfl rfl (by omega) (by decide) dX4_bale_121 ?_
                      refine z_f (MF_u 4 200 rfl (by decide) _) ?_
                      refine z_f (congrArg (fun z => MF cy ad cn z w x) (show va_up (va_up u 4 (intoM u w (cn 5) sc i)) 4 (upd (intoM u w (cn 5) sc i) i ((intoM u w (cn 5) sc i) i)) = va_up u 4 (upd (intoM u w (cn 5) sc i) i ((intoM u w (cn 5) sc i) i)) from by (try simp only [upd_uu, vfu_uu, vpu_uu]); funext z9; simp only [va_up]; (repeat' split) <;> first | rfl | omega | simp_all)) ?_
                      refine z_iincN X 2 (k := 1) (lv' := [(4, .int (nI (i + 1))), (0, .ref (ad 0)), (1, .long sc)]) dX4_bale_122 rfl (by decide) (by decide) rfl ?_
                      refine z_goto X (tgt := 70) dX4_bale_125 (by decide) ?_
                      refine z_lv (lv' := [(0, .ref (ad 0)), (1, .long sc), (4, .int (nI (i + 1)))]) [1, 2, 0] rfl ?_
                      refine z_f (congrArg (fun z => MF cy ad cn (va_up u 4 z) w x) (intoM_n (n := i) (fun h => absurd c103 (Int64.not_lt.mpr h.2)))) ?_
                      exact ih70 (i + 1) (by omega) (by omega)
                    · refine z_aload_n X 0 dX4_bale_107 rfl rfl ?_
                      refine z_get X (v := .int (nI (cn 5))) 0 5 wa_X4 rfl rfl rfl (by decide) q_564 rfl rfl dX4_bale_108 ?_
                      refine z_goto X (tgt := 121) dX4_bale_111 (by decide) ?_
                      refine z_iastN X (n := 200) (g := intoM u w (cn 5) sc i) 4 rfl rfl (by omega) (by decide) dX4_bale_121 ?_
                      refine z_f (MF_u 4 200 rfl (by decide) _) ?_
                      refine z_f (congrArg (fun z => MF cy ad cn z w x) (show va_up (va_up u 4 (intoM u w (cn 5) sc i)) 4 (upd (intoM u w (cn 5) sc i) i (nI (cn 5))) = va_up u 4 (upd (intoM u w (cn 5) sc i) i (nI (cn 5))) from by (try simp only [upd_uu, vfu_uu, vpu_uu]); funext z9; simp only [va_up]; (repeat' split) <;> first | rfl | omega | simp_all)) ?_
                      refine z_iincN X 2 (k := 1) (lv' := [(4, .int (nI (i + 1))), (0, .ref (ad 0)), (1, .long sc)]) dX4_bale_122 rfl (by decide) (by decide) rfl ?_
                      refine z_goto X (tgt := 70) dX4_bale_125 (by decide) ?_
                      refine z_lv (lv' := [(0, .ref (ad 0)), (1, .long sc), (4, .int (nI (i + 1)))]) [1, 2, 0] rfl ?_
                      refine z_f (congrArg (fun z => MF cy ad cn (va_up u 4 z) w x) (intoM_s (n := i) ⟨by rw [← (show intoM u w (cn 5) sc i i = u 4 i from intoM_at)]; exact Int32.not_le.mp c92, Int64.not_lt.mp c103⟩)) ?_
                      exact ih70 (i + 1) (by omega) (by omega)
            refine z_f (show MF cy ad cn u w x = MF cy ad cn (va_up u 4 (intoM u w (cn 5) sc 0)) w x from by rw [intoM_0, up_self]) ?_
            exact lp70 (cn 0 + 1) 0 (by omega) (by omega)
          · refine z_iconst X (v := -1) dX4_bale_65 (by decide) ?_
            refine z_iret X (Nat.le_of_ble_eq_true rfl) (Nat.le_of_ble_eq_true rfl) ?_ dX4_bale_66
            have h9 : ¬ (anyB (fun f => decide (looseM u w sc f)) (cn 0) = true ∧ cn 5 ≠ 12) := fun h => h.2 c62
            exact ⟨by rw [if_neg h9], rfl, by rw [if_neg h9]⟩
      · refine z_iload_n X 2 dX4_bale_14 rfl rfl ?_
        refine z_if_neN X (tgt := 40) (by rw [hs]; exact b01_lt) dX4_bale_15 (by decide) (fun c15 => ?_) (fun c15 => ?_)
        · refine z_iconst X (v := nI 1) dX4_bale_40 (by decide) ?_
          refine z_goto X (tgt := 45) dX4_bale_41 (by decide) ?_
          refine z_istore_n X (lv' := [(3, .int (nI 1)), (0, .ref (ad 0)), (1, .long sc), (4, .int (nI i))]) dX4_bale_45 rfl (by decide) rfl ?_
          refine z_iincN X 3 (k := 1) (lv' := [(4, .int (nI (i + 1))), (3, .int (nI 1)), (0, .ref (ad 0)), (1, .long sc)]) dX4_bale_46 rfl (by decide) (by decide) rfl ?_
          refine z_goto X (tgt := 5) dX4_bale_49 (by decide) ?_
          refine z_lv (lv' := [(0, .ref (ad 0)), (1, .long sc), (3, .int (nI 1)), (4, .int (nI (i + 1)))]) [2, 3, 1, 0] rfl ?_
          exact ih5 (i + 1) 1 (by omega) (by exact anyB_k ((b01_n (P := anyB (fun f => decide (looseM u w sc f)) i = true)).mp (by rw [← hs]; exact c15))) (by omega)
        · refine z_aload_n X 0 dX4_bale_18 rfl rfl ?_
          refine z_get X (v := .ref (ad 4)) 0 4 wa_X4 rfl rfl rfl (by decide) q_563 rfl rfl dX4_bale_19 ?_
          refine z_iload X 3 dX4_bale_22 rfl ?_
          refine z_ialdN X (n := 200) (g := u 4) 4 rfl rfl (by omega) (by decide) dX4_bale_24 ?_
          refine z_if_ge X (tgt := 44) dX4_bale_25 (by decide) (fun c25 => ?_) (fun c25 => ?_)
          · refine z_iconst X (v := nI 0) dX4_bale_44 (by decide) ?_
            refine z_istore_n X (lv' := [(3, .int (nI 0)), (0, .ref (ad 0)), (1, .long sc), (4, .int (nI i))]) dX4_bale_45 rfl (by decide) rfl ?_
            refine z_iincN X 3 (k := 1) (lv' := [(4, .int (nI (i + 1))), (3, .int (nI 0)), (0, .ref (ad 0)), (1, .long sc)]) dX4_bale_46 rfl (by decide) (by decide) rfl ?_
            refine z_goto X (tgt := 5) dX4_bale_49 (by decide) ?_
            refine z_lv (lv' := [(0, .ref (ad 0)), (1, .long sc), (3, .int (nI 0)), (4, .int (nI (i + 1)))]) [2, 3, 1, 0] rfl ?_
            exact ih5 (i + 1) 0 (by omega) (by exact anyB_f ((b01_0 (P := anyB (fun f => decide (looseM u w sc f)) i = true)).mp (by rw [← hs]; exact c15)) (fun h => absurd c25 (Int32.not_le.mpr h.1))) (by omega)
          · refine z_aload_n X 0 dX4_bale_28 rfl rfl ?_
            refine z_get X (v := .ref (ad 1)) 0 1 wa_X4 rfl rfl rfl (by decide) q_560 rfl rfl dX4_bale_29 ?_
            refine z_iload X 3 dX4_bale_32 rfl ?_
            refine z_laldN X (n := 200) (g := w 1) 1 rfl rfl (by omega) (by decide) dX4_bale_34 ?_
            refine z_lload_n X 1 dX4_bale_35 rfl rfl ?_
            refine z_lcmp_gt X (tgt := 44) dX4_bale_36 dX4_bale_37 (by decide) (fun c36 => ?_) (fun c36 => ?_)
            · refine z_iconst X (v := nI 0) dX4_bale_44 (by decide) ?_
              refine z_istore_n X (lv' := [(3, .int (nI 0)), (0, .ref (ad 0)), (1, .long sc), (4, .int (nI i))]) dX4_bale_45 rfl (by decide) rfl ?_
              refine z_iincN X 3 (k := 1) (lv' := [(4, .int (nI (i + 1))), (3, .int (nI 0)), (0, .ref (ad 0)), (1, .long sc)]) dX4_bale_46 rfl (by decide) (by decide) rfl ?_
              refine z_goto X (tgt := 5) dX4_bale_49 (by decide) ?_
              refine z_lv (lv' := [(0, .ref (ad 0)), (1, .long sc), (3, .int (nI 0)), (4, .int (nI (i + 1)))]) [2, 3, 1, 0] rfl ?_
              exact ih5 (i + 1) 0 (by omega) (by exact anyB_f ((b01_0 (P := anyB (fun f => decide (looseM u w sc f)) i = true)).mp (by rw [← hs]; exact c15)) (fun h => absurd c36 (Int64.not_lt.mpr h.2))) (by omega)
            · refine z_iconst X (v := nI 1) dX4_bale_40 (by decide) ?_
              refine z_goto X (tgt := 45) dX4_bale_41 (by decide) ?_
              refine z_istore_n X (lv' := [(3, .int (nI 1)), (0, .ref (ad 0)), (1, .long sc), (4, .int (nI i))]) dX4_bale_45 rfl (by decide) rfl ?_
              refine z_iincN X 3 (k := 1) (lv' := [(4, .int (nI (i + 1))), (3, .int (nI 1)), (0, .ref (ad 0)), (1, .long sc)]) dX4_bale_46 rfl (by decide) (by decide) rfl ?_
              refine z_goto X (tgt := 5) dX4_bale_49 (by decide) ?_
              refine z_lv (lv' := [(0, .ref (ad 0)), (1, .long sc), (3, .int (nI 1)), (4, .int (nI (i + 1)))]) [2, 3, 1, 0] rfl ?_
              exact ih5 (i + 1) 1 (by omega) (by exact anyB_t ⟨Int32.not_le.mp c25, Int64.not_lt.mp c36⟩) (by omega)
  exact lp5 (cn 0 + 1) 0 0 (by omega) (by rfl) (by omega)
set_option maxHeartbeats 4000000 in
set_option maxRecDepth 100000 in
theorem m_has (l : Launch) (G : va_G) (cy : Nat → ClassId) (B : Nat) (ad : Nat → Nat) (cn : Nat → Nat) (u : Nat → Nat → Int32) (w : Nat → Nat → Int64) (x : Nat → Nat → UInt64) (j : Nat) (hj : j < 12) (t : Int32) : Ct l G cy B yX4_has cX4_has 5 (some .boolean) ({ frames := 0, cells := 0, slots := 0, locals := 0 } : Room) ad (MF cy ad cn u w x) [.ref (ad 0), .int (nI j), .int t] (fun v ad' f' => v = some (.int (nI (if hasI (u 12) (u 13) j t then 1 else 0))) ∧ ad = ad' ∧ MF cy ad cn u w x = f') := by
  refine ct_of (by decide +kernel) (Nat.le_of_ble_eq_true rfl) ?_
  intro p e s m args below meth c X hnm
  refine z_lv (lv' := [(0, .ref (ad 0)), (1, .int (nI j)), (2, .int t)]) [0, 1, 2] rfl ?_
  refine z_iconst X (v := nI 1) dX4_has_0 (by decide) ?_
  refine z_iload_n X 1 dX4_has_1 rfl rfl ?_
  refine z_ishl X dX4_has_2 ?_
  refine z_istore_n X (lv' := [(3, .int ((nI 1) <<< ((nI j) &&& 31))), (0, .ref (ad 0)), (1, .int (nI j)), (2, .int t)]) dX4_has_3 rfl (by decide) rfl ?_
  refine z_iload_n X 2 dX4_has_4 rfl rfl ?_
  refine z_istore X (lv' := [(4, .int (nI j)), (3, .int ((nI 1) <<< ((nI j) &&& 31))), (0, .ref (ad 0)), (1, .int (nI j)), (2, .int t)]) dX4_has_5 (by decide) rfl ?_
  refine z_iload X 0 dX4_has_7 rfl ?_
  refine z_if_ltN X (tgt := 60) (by omega) dX4_has_9 (by decide) ?_
  refine z_lv (lv' := [(0, .ref (ad 0)), (2, .int t), (3, .int ((nI 1) <<< ((nI j) &&& 31))), (4, .int (nI j))]) [2, 4, 1, 0] rfl ?_
  have lp12 : ∀ (fu12 : Nat) (b : Nat) (sv : Int32), (b < 12) → (hLoop (u 12) (u 13) (b + 1) sv = hLoop (u 12) (u 13) (j + 1) (nI 1 <<< (nI j &&& 31))) → b < fu12 → Z G B 5 ad (MF cy ad cn u w x) p l e ({ frames := 0, cells := 0, slots := 0, locals := 0 } : Room) s m args below meth c (zEnd G B ad (MF cy ad cn u w x) below args s ({ frames := 0, cells := 0, slots := 0, locals := 0 } : Room) (fun v ad' f' => v = some (.int (nI (if hasI (u 12) (u 13) j t then 1 else 0))) ∧ ad = ad' ∧ MF cy ad cn u w x = f')) ad (MF cy ad cn u w x) 0 0 12 [(0, .ref (ad 0)), (2, .int t), (3, .int sv), (4, .int (nI b))] [] := by
    intro fu12
    induction fu12 with
    | zero => intro b sv hb hs hm12; exact absurd hm12 (by omega)
    | succ fu12 ih12 =>
      intro b sv hb hs hm12
      refine z_iload_n X 2 dX4_has_12 rfl rfl ?_
      refine z_iload X 3 dX4_has_13 rfl ?_
      refine z_ishr X dX4_has_15 ?_
      refine z_iconst X (v := nI 1) dX4_has_16 (by decide) ?_
      refine z_iand X dX4_has_17 ?_
      refine z_iconst X (v := nI 1) dX4_has_18 (by decide) ?_
      refine z_icmp_ne X (tgt := 54) dX4_has_19 (by decide) (fun c19 => ?_) (fun c19 => ?_)
      · have hw : hLoop (u 12) (u 13) b sv = hLoop (u 12) (u 13) (j + 1) (nI 1 <<< (nI j &&& 31)) := by rw [← hs]; exact congrArg (hLoop (u 12) (u 13) b) (hStep_f (fun h => c19 h.1))
        by_cases hb0 : b = 0
        · refine z_iinc X 3 (v := -1) (lv' := [(4, .int (-1)), (0, .ref (ad 0)), (2, .int t), (3, .int sv)]) dX4_has_54 rfl (by rw [hb0]; rfl) (by decide) rfl ?_
          refine z_goto X (tgt := 7) dX4_has_57 (by decide) ?_
          refine z_iload X 0 dX4_has_7 rfl ?_
          refine z_if_lt X (tgt := 60) dX4_has_9 (by decide) (fun c9 => ?_) (fun c9 => by exfalso; exact absurd (by decide) c9)
          refine z_iload_n X 3 dX4_has_60 rfl rfl ?_
          refine z_iload_n X 2 dX4_has_61 rfl rfl ?_
          refine z_ishr X dX4_has_62 ?_
          refine z_iconst X (v := nI 1) dX4_has_63 (by decide) ?_
          refine z_iand X dX4_has_64 ?_
          refine z_iconst X (v := nI 1) dX4_has_65 (by decide) ?_
          refine z_icmp_ne X (tgt := 73) dX4_has_66 (by decide) (fun c66 => ?_) (fun c66 => ?_)
          · refine z_iconst X (v := nI 0) dX4_has_73 (by decide) ?_
            refine z_zret rfl X (Nat.le_of_ble_eq_true rfl) (Nat.le_of_ble_eq_true rfl) ?_ dX4_has_74
            subst hb0
            exact ⟨by first | rw [if_pos (by unfold hasI; rw [← hw]; exact c66)] | rw [if_neg (by unfold hasI; rw [← hw]; exact c66)], rfl, rfl⟩
          · refine z_iconst X (v := nI 1) dX4_has_69 (by decide) ?_
            refine z_goto X (tgt := 74) dX4_has_70 (by decide) ?_
            refine z_zret rfl X (Nat.le_of_ble_eq_true rfl) (Nat.le_of_ble_eq_true rfl) ?_ dX4_has_74
            subst hb0
            exact ⟨by first | rw [if_pos (by unfold hasI; rw [← hw]; exact c66)] | rw [if_neg (by unfold hasI; rw [← hw]; exact c66)], rfl, rfl⟩
        · refine z_iinc X 3 (v := nI (b - 1)) (lv' := [(4, .int (nI (b - 1))), (0, .ref (ad 0)), (2, .int t), (3, .int sv)]) dX4_has_54 rfl (pk_dec (by omega)) (by decide) rfl ?_
          refine z_goto X (tgt := 7) dX4_has_57 (by decide) ?_
          refine z_iload X 0 dX4_has_7 rfl ?_
          refine z_if_ltN X (tgt := 60) (by omega) dX4_has_9 (by decide) ?_
          refine z_lv (lv' := [(0, .ref (ad 0)), (2, .int t), (3, .int sv), (4, .int (nI (b - 1)))]) [1, 2, 3, 0] rfl ?_
          exact ih12 (b - 1) sv (by omega) (by rw [Nat.sub_add_cancel (by omega)]; exact hw) (by omega)
      · refine z_aload_n X 0 dX4_has_22 rfl rfl ?_
        refine z_get X (v := .ref (ad 12)) 0 12 wa_X4 rfl rfl rfl (by decide) q_571 rfl rfl dX4_has_23 ?_
        refine z_iload X 3 dX4_has_26 rfl ?_
        refine z_ialdN X (n := 12) (g := u 12) 12 rfl rfl (by omega) (by decide) dX4_has_28 ?_
        refine z_if_lt X (tgt := 54) dX4_has_29 (by decide) (fun c29 => ?_) (fun c29 => ?_)
        · have hw : hLoop (u 12) (u 13) b sv = hLoop (u 12) (u 13) (j + 1) (nI 1 <<< (nI j &&& 31)) := by rw [← hs]; exact congrArg (hLoop (u 12) (u 13) b) (hStep_f (fun h => h.2 c29))
          by_cases hb0 : b = 0
          · refine z_iinc X 3 (v := -1) (lv' := [(4, .int (-1)), (0, .ref (ad 0)), (2, .int t), (3, .int sv)]) dX4_has_54 rfl (by rw [hb0]; rfl) (by decide) rfl ?_
            refine z_goto X (tgt := 7) dX4_has_57 (by decide) ?_
            refine z_iload X 0 dX4_has_7 rfl ?_
            refine z_if_lt X (tgt := 60) dX4_has_9 (by decide) (fun c9 => ?_) (fun c9 => by exfalso; exact absurd (by decide) c9)
            refine z_iload_n X 3 dX4_has_60 rfl rfl ?_
            refine z_iload_n X 2 dX4_has_61 rfl rfl ?_
            refine z_ishr X dX4_has_62 ?_
            refine z_iconst X (v := nI 1) dX4_has_63 (by decide) ?_
            refine z_iand X dX4_has_64 ?_
            refine z_iconst X (v := nI 1) dX4_has_65 (by decide) ?_
            refine z_icmp_ne X (tgt := 73) dX4_has_66 (by decide) (fun c66 => ?_) (fun c66 => ?_)
            · refine z_iconst X (v := nI 0) dX4_has_73 (by decide) ?_
              refine z_zret rfl X (Nat.le_of_ble_eq_true rfl) (Nat.le_of_ble_eq_true rfl) ?_ dX4_has_74
              subst hb0
              exact ⟨by first | rw [if_pos (by unfold hasI; rw [← hw]; exact c66)] | rw [if_neg (by unfold hasI; rw [← hw]; exact c66)], rfl, rfl⟩
            · refine z_iconst X (v := nI 1) dX4_has_69 (by decide) ?_
              refine z_goto X (tgt := 74) dX4_has_70 (by decide) ?_
              refine z_zret rfl X (Nat.le_of_ble_eq_true rfl) (Nat.le_of_ble_eq_true rfl) ?_ dX4_has_74
              subst hb0
              exact ⟨by first | rw [if_pos (by unfold hasI; rw [← hw]; exact c66)] | rw [if_neg (by unfold hasI; rw [← hw]; exact c66)], rfl, rfl⟩
          · refine z_iinc X 3 (v := nI (b - 1)) (lv' := [(4, .int (nI (b - 1))), (0, .ref (ad 0)), (2, .int t), (3, .int sv)]) dX4_has_54 rfl (pk_dec (by omega)) (by decide) rfl ?_
            refine z_goto X (tgt := 7) dX4_has_57 (by decide) ?_
            refine z_iload X 0 dX4_has_7 rfl ?_
            refine z_if_ltN X (tgt := 60) (by omega) dX4_has_9 (by decide) ?_
            refine z_lv (lv' := [(0, .ref (ad 0)), (2, .int t), (3, .int sv), (4, .int (nI (b - 1)))]) [1, 2, 3, 0] rfl ?_
            exact ih12 (b - 1) sv (by omega) (by rw [Nat.sub_add_cancel (by omega)]; exact hw) (by omega)
        · refine z_iload_n X 2 dX4_has_32 rfl rfl ?_
          refine z_iconst X (v := nI 1) dX4_has_33 (by decide) ?_
          refine z_aload_n X 0 dX4_has_34 rfl rfl ?_
          refine z_get X (v := .ref (ad 12)) 0 12 wa_X4 rfl rfl rfl (by decide) q_571 rfl rfl dX4_has_35 ?_
          refine z_iload X 3 dX4_has_38 rfl ?_
          refine z_ialdN X (n := 12) (g := u 12) 12 rfl rfl (by omega) (by decide) dX4_has_40 ?_
          refine z_ishl X dX4_has_41 ?_
          refine z_iconst X (v := nI 1) dX4_has_42 (by decide) ?_
          refine z_aload_n X 0 dX4_has_43 rfl rfl ?_
          refine z_get X (v := .ref (ad 13)) 0 13 wa_X4 rfl rfl rfl (by decide) q_572 rfl rfl dX4_has_44 ?_
          refine z_iload X 3 dX4_has_47 rfl ?_
          refine z_ialdN X (n := 12) (g := u 13) 13 rfl rfl (by omega) (by decide) dX4_has_49 ?_
          refine z_ishl X dX4_has_50 ?_
          refine z_ior X dX4_has_51 ?_
          refine z_ior X dX4_has_52 ?_
          refine z_istore_n X (lv' := [(3, .int (sv ||| (((nI 1) <<< (((u 12) b) &&& 31)) ||| ((nI 1) <<< (((u 13) b) &&& 31))))), (0, .ref (ad 0)), (2, .int t), (4, .int (nI b))]) dX4_has_53 rfl (by decide) rfl ?_
          have hw : hLoop (u 12) (u 13) b (sv ||| (((nI 1) <<< (((u 12) b) &&& 31)) ||| ((nI 1) <<< (((u 13) b) &&& 31)))) = hLoop (u 12) (u 13) (j + 1) (nI 1 <<< (nI j &&& 31)) := by rw [← hs]; exact congrArg (hLoop (u 12) (u 13) b) (hStep_t c19 c29)
          by_cases hb0 : b = 0
          · refine z_iinc X 3 (v := -1) (lv' := [(4, .int (-1)), (3, .int (sv ||| (((nI 1) <<< (((u 12) b) &&& 31)) ||| ((nI 1) <<< (((u 13) b) &&& 31))))), (0, .ref (ad 0)), (2, .int t)]) dX4_has_54 rfl (by rw [hb0]; rfl) (by decide) rfl ?_
            refine z_goto X (tgt := 7) dX4_has_57 (by decide) ?_
            refine z_iload X 0 dX4_has_7 rfl ?_
            refine z_if_lt X (tgt := 60) dX4_has_9 (by decide) (fun c9 => ?_) (fun c9 => by exfalso; exact absurd (by decide) c9)
            refine z_iload_n X 1 dX4_has_60 rfl rfl ?_
            refine z_iload_n X 3 dX4_has_61 rfl rfl ?_
            refine z_ishr X dX4_has_62 ?_
            refine z_iconst X (v := nI 1) dX4_has_63 (by decide) ?_
            refine z_iand X dX4_has_64 ?_
            refine z_iconst X (v := nI 1) dX4_has_65 (by decide) ?_
            refine z_icmp_ne X (tgt := 73) dX4_has_66 (by decide) (fun c66 => ?_) (fun c66 => ?_)
            · refine z_iconst X (v := nI 0) dX4_has_73 (by decide) ?_
              refine z_zret rfl X (Nat.le_of_ble_eq_true rfl) (Nat.le_of_ble_eq_true rfl) ?_ dX4_has_74
              subst hb0
              exact ⟨by first | rw [if_pos (by unfold hasI; rw [← hw]; exact c66)] | rw [if_neg (by unfold hasI; rw [← hw]; exact c66)], rfl, rfl⟩
            · refine z_iconst X (v := nI 1) dX4_has_69 (by decide) ?_
              refine z_goto X (tgt := 74) dX4_has_70 (by decide) ?_
              refine z_zret rfl X (Nat.le_of_ble_eq_true rfl) (Nat.le_of_ble_eq_true rfl) ?_ dX4_has_74
              subst hb0
              exact ⟨by first | rw [if_pos (by unfold hasI; rw [← hw]; exact c66)] | rw [if_neg (by unfold hasI; rw [← hw]; exact c66)], rfl, rfl⟩
          · refine z_iinc X 3 (v := nI (b - 1)) (lv' := [(4, .int (nI (b - 1))), (3, .int (sv ||| (((nI 1) <<< (((u 12) b) &&& 31)) ||| ((nI 1) <<< (((u 13) b) &&& 31))))), (0, .ref (ad 0)), (2, .int t)]) dX4_has_54 rfl (pk_dec (by omega)) (by decide) rfl ?_
            refine z_goto X (tgt := 7) dX4_has_57 (by decide) ?_
            refine z_iload X 0 dX4_has_7 rfl ?_
            refine z_if_ltN X (tgt := 60) (by omega) dX4_has_9 (by decide) ?_
            refine z_lv (lv' := [(0, .ref (ad 0)), (2, .int t), (3, .int (sv ||| (((nI 1) <<< (((u 12) b) &&& 31)) ||| ((nI 1) <<< (((u 13) b) &&& 31))))), (4, .int (nI (b - 1)))]) [2, 3, 1, 0] rfl ?_
            exact ih12 (b - 1) (sv ||| (((nI 1) <<< (((u 12) b) &&& 31)) ||| ((nI 1) <<< (((u 13) b) &&& 31)))) (by omega) (by rw [Nat.sub_add_cancel (by omega)]; exact hw) (by omega)
  exact lp12 (j + 1) j (nI 1 <<< (nI j &&& 31)) (by omega) (by rfl) (by omega)
set_option maxHeartbeats 4000000 in
set_option maxRecDepth 100000 in
theorem m_gramsOf (l : Launch) (G : va_G) (cy : Nat → ClassId) (B : Nat) (ad : Nat → Nat) (cn : Nat → Nat) (u : Nat → Nat → Int32) (w : Nat → Nat → Int64) (x : Nat → Nat → UInt64) (hc0 : cn 0 ≤ 200) (j : Nat) (hj : j < 12) (k : Int32) : Ct l G cy B yX4_gramsOf cX4_gramsOf 6 (some .long) ({ frames := 1, cells := 0, slots := 0, locals := 24 } : Room) ad (MF cy ad cn u w x) [.ref (ad 0), .int (nI j), .int k] (fun v ad' f' => v = some (.long (gramsM cn u w j k)) ∧ ad = ad' ∧ MF cy ad cn u w x = f') := by
  refine ct_of (by decide +kernel) (Nat.le_of_ble_eq_true rfl) ?_
  intro p e s m args below meth c X hnm
  refine z_lv (lv' := [(0, .ref (ad 0)), (1, .int (nI j)), (2, .int k)]) [0, 1, 2] rfl ?_
  refine z_lconst X (v := 0) dX4_gramsOf_0 rfl ?_
  refine z_lstore_n X (lv' := [(3, .long 0), (0, .ref (ad 0)), (1, .int (nI j)), (2, .int k)]) dX4_gramsOf_1 rfl (by decide) rfl ?_
  refine z_iconst X (v := nI 0) dX4_gramsOf_2 (by decide) ?_
  refine z_istore X (lv' := [(5, .int (nI 0)), (3, .long 0), (0, .ref (ad 0)), (1, .int (nI j)), (2, .int k)]) dX4_gramsOf_3 (by decide) rfl ?_
  refine z_lv (lv' := [(0, .ref (ad 0)), (1, .int (nI j)), (2, .int k), (3, .long 0), (5, .int (nI 0))]) [2, 3, 4, 1, 0] rfl ?_
  have lp5 : ∀ (fu5 : Nat) (i : Nat) (sv : Int64), (i ≤ cn 0) → (sv = sumL (fun f => if ¬ u 4 f < 0 ∧ u 2 f = k ∧ hasI (u 12) (u 13) j (u 4 f) then w 3 f else 0) i) → cn 0 + 1 ≤ i + fu5 → Z G B 6 ad (MF cy ad cn u w x) p l e ({ frames := 1, cells := 0, slots := 0, locals := 24 } : Room) s m args below meth c (zEnd G B ad (MF cy ad cn u w x) below args s ({ frames := 1, cells := 0, slots := 0, locals := 24 } : Room) (fun v ad' f' => v = some (.long (gramsM cn u w j k)) ∧ ad = ad' ∧ MF cy ad cn u w x = f')) ad (MF cy ad cn u w x) 0 0 5 [(0, .ref (ad 0)), (1, .int (nI j)), (2, .int k), (3, .long sv), (5, .int (nI i))] [] := by
    intro fu5
    induction fu5 with
    | zero => intro i sv hi hs hm5; exact absurd hm5 (by omega)
    | succ fu5 ih5 =>
      intro i sv hi hs hm5
      refine z_iload X 4 dX4_gramsOf_5 rfl ?_
      refine z_aload_n X 0 dX4_gramsOf_7 rfl rfl ?_
      refine z_get X (v := .int (nI (cn 0))) 0 0 wa_X4 rfl rfl rfl (by decide) q_559 rfl rfl dX4_gramsOf_8 ?_
      refine z_icmp_geN X (tgt := 70) (by omega) (by omega) dX4_gramsOf_11 (by decide) (fun c11 => ?_) (fun c11 => ?_)
      · obtain rfl : i = cn 0 := by omega
        refine z_lload_n X 3 dX4_gramsOf_70 rfl rfl ?_
        refine z_lret X (Nat.le_of_ble_eq_true rfl) (Nat.le_of_ble_eq_true rfl) ?_ dX4_gramsOf_71
        exact ⟨by rw [hs]; rfl, rfl, rfl⟩
      · refine z_lload_n X 3 dX4_gramsOf_14 rfl rfl ?_
        refine z_aload_n X 0 dX4_gramsOf_15 rfl rfl ?_
        refine z_get X (v := .ref (ad 4)) 0 4 wa_X4 rfl rfl rfl (by decide) q_563 rfl rfl dX4_gramsOf_16 ?_
        refine z_iload X 4 dX4_gramsOf_19 rfl ?_
        refine z_ialdN X (n := 200) (g := u 4) 4 rfl rfl (by omega) (by decide) dX4_gramsOf_21 ?_
        refine z_if_lt X (tgt := 61) dX4_gramsOf_22 (by decide) (fun c22 => ?_) (fun c22 => ?_)
        · refine z_lconst X (v := 0) dX4_gramsOf_61 rfl ?_
          refine z_ladd X dX4_gramsOf_62 ?_
          refine z_lstore_n X (lv' := [(3, .long (sv + 0)), (0, .ref (ad 0)), (1, .int (nI j)), (2, .int k), (5, .int (nI i))]) dX4_gramsOf_63 rfl (by decide) rfl ?_
          refine z_iincN X 4 (k := 1) (lv' := [(5, .int (nI (i + 1))), (3, .long (sv + 0)), (0, .ref (ad 0)), (1, .int (nI j)), (2, .int k)]) dX4_gramsOf_64 rfl (by decide) (by decide) rfl ?_
          refine z_goto X (tgt := 5) dX4_gramsOf_67 (by decide) ?_
          refine z_lv (lv' := [(0, .ref (ad 0)), (1, .int (nI j)), (2, .int k), (3, .long (sv + 0)), (5, .int (nI (i + 1)))]) [2, 3, 4, 1, 0] rfl ?_
          exact ih5 (i + 1) (sv + 0) (by omega) (by exact sumL_f hs (fun h => by simp_all)) (by omega)
        · refine z_aload_n X 0 dX4_gramsOf_25 rfl rfl ?_
          refine z_get X (v := .ref (ad 2)) 0 2 wa_X4 rfl rfl rfl (by decide) q_561 rfl rfl dX4_gramsOf_26 ?_
          refine z_iload X 4 dX4_gramsOf_29 rfl ?_
          refine z_ialdN X (n := 200) (g := u 2) 2 rfl rfl (by omega) (by decide) dX4_gramsOf_31 ?_
          refine z_iload_n X 2 dX4_gramsOf_32 rfl rfl ?_
          refine z_icmp_ne X (tgt := 61) dX4_gramsOf_33 (by decide) (fun c33 => ?_) (fun c33 => ?_)
          · refine z_lconst X (v := 0) dX4_gramsOf_61 rfl ?_
            refine z_ladd X dX4_gramsOf_62 ?_
            refine z_lstore_n X (lv' := [(3, .long (sv + 0)), (0, .ref (ad 0)), (1, .int (nI j)), (2, .int k), (5, .int (nI i))]) dX4_gramsOf_63 rfl (by decide) rfl ?_
            refine z_iincN X 4 (k := 1) (lv' := [(5, .int (nI (i + 1))), (3, .long (sv + 0)), (0, .ref (ad 0)), (1, .int (nI j)), (2, .int k)]) dX4_gramsOf_64 rfl (by decide) (by decide) rfl ?_
            refine z_goto X (tgt := 5) dX4_gramsOf_67 (by decide) ?_
            refine z_lv (lv' := [(0, .ref (ad 0)), (1, .int (nI j)), (2, .int k), (3, .long (sv + 0)), (5, .int (nI (i + 1)))]) [2, 3, 4, 1, 0] rfl ?_
            exact ih5 (i + 1) (sv + 0) (by omega) (by exact sumL_f hs (fun h => by simp_all)) (by omega)
          · refine z_aload_n X 0 dX4_gramsOf_36 rfl rfl ?_
            refine z_iload_n X 1 dX4_gramsOf_37 rfl rfl ?_
            refine z_aload_n X 0 dX4_gramsOf_38 rfl rfl ?_
            refine z_get X (v := .ref (ad 4)) 0 4 wa_X4 rfl rfl rfl (by decide) q_563 rfl rfl dX4_gramsOf_39 ?_
            refine z_iload X 4 dX4_gramsOf_42 rfl ?_
            refine z_ialdN X (n := 200) (g := u 4) 4 rfl rfl (by omega) (by decide) dX4_gramsOf_44 ?_
            refine z_callV X (n := 2) (As := [.int (nI j), .int ((u 4) i)]) (rest := [.long sv]) 0 rfl rfl rfl (m_has l G cy B ad cn u w x j hj (u 4 i)) q_674 q_675 q_16 q_29 q_676 (by decide +kernel) ⟨Nat.le_of_ble_eq_true rfl, Nat.le_of_ble_eq_true rfl⟩ rfl rfl (Nat.le_of_ble_eq_true rfl) dX4_gramsOf_45 ⟨Nat.le_of_ble_eq_true rfl, Nat.le_of_ble_eq_true rfl⟩ (fun v ad' f' hp had => ?_)
            obtain ⟨rfl, rfl, rfl⟩ := hp
            refine z_st (st' := [.int (nI (if hasI (u 12) (u 13) j (u 4 i) then 1 else 0)), .long sv]) rfl ?_
            refine z_if_eqB X (tgt := 61) dX4_gramsOf_48 (by decide) (fun c48 => ?_) (fun c48 => ?_)
            · refine z_lconst X (v := 0) dX4_gramsOf_61 rfl ?_
              refine z_ladd X dX4_gramsOf_62 ?_
              refine z_lstore_n X (lv' := [(3, .long (sv + 0)), (0, .ref (ad 0)), (1, .int (nI j)), (2, .int k), (5, .int (nI i))]) dX4_gramsOf_63 rfl (by decide) rfl ?_
              refine z_iincN X 4 (k := 1) (lv' := [(5, .int (nI (i + 1))), (3, .long (sv + 0)), (0, .ref (ad 0)), (1, .int (nI j)), (2, .int k)]) dX4_gramsOf_64 rfl (by decide) (by decide) rfl ?_
              refine z_goto X (tgt := 5) dX4_gramsOf_67 (by decide) ?_
              refine z_lv (lv' := [(0, .ref (ad 0)), (1, .int (nI j)), (2, .int k), (3, .long (sv + 0)), (5, .int (nI (i + 1)))]) [2, 3, 4, 1, 0] rfl ?_
              exact ih5 (i + 1) (sv + 0) (by omega) (by exact sumL_f hs (fun h => by simp_all)) (by omega)
            · refine z_aload_n X 0 dX4_gramsOf_51 rfl rfl ?_
              refine z_get X (v := .ref (ad 3)) 0 3 wa_X4 rfl rfl rfl (by decide) q_562 rfl rfl dX4_gramsOf_52 ?_
              refine z_iload X 4 dX4_gramsOf_55 rfl ?_
              refine z_laldN X (n := 200) (g := w 3) 3 rfl rfl (by omega) (by decide) dX4_gramsOf_57 ?_
              refine z_goto X (tgt := 62) dX4_gramsOf_58 (by decide) ?_
              refine z_ladd X dX4_gramsOf_62 ?_
              refine z_lstore_n X (lv' := [(3, .long (sv + ((w 3) i))), (0, .ref (ad 0)), (1, .int (nI j)), (2, .int k), (5, .int (nI i))]) dX4_gramsOf_63 rfl (by decide) rfl ?_
              refine z_iincN X 4 (k := 1) (lv' := [(5, .int (nI (i + 1))), (3, .long (sv + ((w 3) i))), (0, .ref (ad 0)), (1, .int (nI j)), (2, .int k)]) dX4_gramsOf_64 rfl (by decide) (by decide) rfl ?_
              refine z_goto X (tgt := 5) dX4_gramsOf_67 (by decide) ?_
              refine z_lv (lv' := [(0, .ref (ad 0)), (1, .int (nI j)), (2, .int k), (3, .long (sv + ((w 3) i))), (5, .int (nI (i + 1)))]) [2, 3, 4, 1, 0] rfl ?_
              exact ih5 (i + 1) (sv + ((w 3) i)) (by omega) (by exact sumL_t hs ⟨Int32.not_lt.mpr (Int32.not_lt.mp c22), c33, c48⟩) (by omega)
  exact lp5 (cn 0 + 1) 0 0 (by omega) (by rfl) (by omega)
set_option maxHeartbeats 4000000 in
set_option maxRecDepth 100000 in
theorem m_weight (l : Launch) (G : va_G) (cy : Nat → ClassId) (B : Nat) (ad : Nat → Nat) (cn : Nat → Nat) (u : Nat → Nat → Int32) (w : Nat → Nat → Int64) (x : Nat → Nat → UInt64) (hc0 : cn 0 ≤ 200) (j : Nat) (hj : j < 12) : Ct l G cy B yX4_weight cX4_weight 5 (some .long) ({ frames := 2, cells := 0, slots := 0, locals := 49 } : Room) ad (MF cy ad cn u w x) [.ref (ad 0), .int (nI j)] (fun v ad' f' => v = some (.long (weightM cn u w j)) ∧ ad = ad' ∧ MF cy ad cn u w x = f') := by
  refine ct_of (by decide +kernel) (Nat.le_of_ble_eq_true rfl) ?_
  intro p e s m args below meth c X hnm
  refine z_lv (lv' := [(0, .ref (ad 0)), (1, .int (nI j))]) [0, 1] rfl ?_
  refine z_lconst X (v := 0) dX4_weight_0 rfl ?_
  refine z_lstore_n X (lv' := [(2, .long 0), (0, .ref (ad 0)), (1, .int (nI j))]) dX4_weight_1 rfl (by decide) rfl ?_
  refine z_iconst X (v := nI 0) dX4_weight_2 (by decide) ?_
  refine z_istore X (lv' := [(4, .int (nI 0)), (2, .long 0), (0, .ref (ad 0)), (1, .int (nI j))]) dX4_weight_3 (by decide) rfl ?_
  refine z_lv (lv' := [(0, .ref (ad 0)), (1, .int (nI j)), (2, .long 0), (4, .int (nI 0))]) [2, 3, 1, 0] rfl ?_
  have lp5 : ∀ (fu5 : Nat) (i : Nat) (sv : Int64), (i ≤ 4) → (sv = sumL (fun k => gramsM cn u w j (nI k)) i) → 4 + 1 ≤ i + fu5 → Z G B 5 ad (MF cy ad cn u w x) p l e ({ frames := 2, cells := 0, slots := 0, locals := 49 } : Room) s m args below meth c (zEnd G B ad (MF cy ad cn u w x) below args s ({ frames := 2, cells := 0, slots := 0, locals := 49 } : Room) (fun v ad' f' => v = some (.long (weightM cn u w j)) ∧ ad = ad' ∧ MF cy ad cn u w x = f')) ad (MF cy ad cn u w x) 0 0 5 [(0, .ref (ad 0)), (1, .int (nI j)), (2, .long sv), (4, .int (nI i))] [] := by
    intro fu5
    induction fu5 with
    | zero => intro i sv hi hs hm5; exact absurd hm5 (by omega)
    | succ fu5 ih5 =>
      intro i sv hi hs hm5
      refine z_iload X 3 dX4_weight_5 rfl ?_
      refine z_iconst X (v := nI 4) dX4_weight_7 (by decide) ?_
      refine z_icmp_geN X (tgt := 27) (by omega) (by omega) dX4_weight_8 (by decide) (fun c8 => ?_) (fun c8 => ?_)
      · obtain rfl : i = 4 := by omega
        refine z_lload_n X 2 dX4_weight_27 rfl rfl ?_
        refine z_lret X (Nat.le_of_ble_eq_true rfl) (Nat.le_of_ble_eq_true rfl) ?_ dX4_weight_28
        exact ⟨by rw [hs]; rfl, rfl, rfl⟩
      · refine z_lload_n X 2 dX4_weight_11 rfl rfl ?_
        refine z_aload_n X 0 dX4_weight_12 rfl rfl ?_
        refine z_iload_n X 1 dX4_weight_13 rfl rfl ?_
        refine z_iload X 3 dX4_weight_14 rfl ?_
        refine z_callV X (n := 2) (As := [.int (nI j), .int (nI i)]) (rest := [.long sv]) 0 rfl rfl rfl (m_gramsOf l G cy B ad cn u w x hc0 j hj (nI i)) q_671 q_672 q_15 q_29 q_673 (by decide +kernel) ⟨Nat.le_of_ble_eq_true rfl, Nat.le_of_ble_eq_true rfl⟩ rfl rfl (Nat.le_of_ble_eq_true rfl) dX4_weight_16 ⟨Nat.le_of_ble_eq_true rfl, Nat.le_of_ble_eq_true rfl⟩ (fun v ad' f' hp had => ?_)
        obtain ⟨rfl, rfl, rfl⟩ := hp
        refine z_st (st' := [.long (gramsM cn u w j (nI i)), .long sv]) rfl ?_
        refine z_ladd X dX4_weight_19 ?_
        refine z_lstore_n X (lv' := [(2, .long (sv + (gramsM cn u w j (nI i)))), (0, .ref (ad 0)), (1, .int (nI j)), (4, .int (nI i))]) dX4_weight_20 rfl (by decide) rfl ?_
        refine z_iincN X 3 (k := 1) (lv' := [(4, .int (nI (i + 1))), (2, .long (sv + (gramsM cn u w j (nI i)))), (0, .ref (ad 0)), (1, .int (nI j))]) dX4_weight_21 rfl (by decide) (by decide) rfl ?_
        refine z_goto X (tgt := 5) dX4_weight_24 (by decide) ?_
        refine z_lv (lv' := [(0, .ref (ad 0)), (1, .int (nI j)), (2, .long (sv + (gramsM cn u w j (nI i)))), (4, .int (nI (i + 1)))]) [2, 3, 1, 0] rfl ?_
        exact ih5 (i + 1) (sv + (gramsM cn u w j (nI i))) (by omega) (by rw [hs]; rfl) (by omega)
  exact lp5 (4 + 1) 0 0 (by omega) (by rfl) (by omega)
set_option maxHeartbeats 4000000 in
set_option maxRecDepth 100000 in
theorem m_mainOf (l : Launch) (G : va_G) (cy : Nat → ClassId) (B : Nat) (ad : Nat → Nat) (cn : Nat → Nat) (u : Nat → Nat → Int32) (w : Nat → Nat → Int64) (x : Nat → Nat → UInt64) (hc0 : cn 0 ≤ 200) (j : Nat) (hj : j < 12) : Ct l G cy B yX4_mainOf cX4_mainOf 4 (some .int) ({ frames := 2, cells := 0, slots := 0, locals := 49 } : Room) ad (MF cy ad cn u w x) [.ref (ad 0), .int (nI j)] (fun v ad' f' => v = some (.int (nI (mainM cn u w j))) ∧ ad = ad' ∧ MF cy ad cn u w x = f') := by
  refine ct_of (by decide +kernel) (Nat.le_of_ble_eq_true rfl) ?_
  intro p e s m args below meth c X hnm
  refine z_lv (lv' := [(0, .ref (ad 0)), (1, .int (nI j))]) [0, 1] rfl ?_
  refine z_iconst X (v := nI 0) dX4_mainOf_0 (by decide) ?_
  refine z_istore_n X (lv' := [(2, .int (nI 0)), (0, .ref (ad 0)), (1, .int (nI j))]) dX4_mainOf_1 rfl (by decide) rfl ?_
  refine z_iconst X (v := nI 1) dX4_mainOf_2 (by decide) ?_
  refine z_istore_n X (lv' := [(3, .int (nI 1)), (2, .int (nI 0)), (0, .ref (ad 0)), (1, .int (nI j))]) dX4_mainOf_3 rfl (by decide) rfl ?_
  refine z_lv (lv' := [(0, .ref (ad 0)), (1, .int (nI j)), (2, .int (nI 0)), (3, .int (nI 1))]) [2, 3, 1, 0] rfl ?_
  have lp4 : ∀ (fu4 : Nat) (i mv : Nat), (i ≤ 3) → (mv = mainL (fun k => gramsM cn u w j (nI k)) i) → 3 + 1 ≤ i + fu4 → Z G B 4 ad (MF cy ad cn u w x) p l e ({ frames := 2, cells := 0, slots := 0, locals := 49 } : Room) s m args below meth c (zEnd G B ad (MF cy ad cn u w x) below args s ({ frames := 2, cells := 0, slots := 0, locals := 49 } : Room) (fun v ad' f' => v = some (.int (nI (mainM cn u w j))) ∧ ad = ad' ∧ MF cy ad cn u w x = f')) ad (MF cy ad cn u w x) 0 0 4 [(0, .ref (ad 0)), (1, .int (nI j)), (2, .int (nI mv)), (3, .int (nI (i + 1)))] [] := by
    intro fu4
    induction fu4 with
    | zero => intro i mv hi hs hm4; exact absurd hm4 (by omega)
    | succ fu4 ih4 =>
      intro i mv hi hs hm4
      refine z_iload_n X 3 dX4_mainOf_4 rfl rfl ?_
      refine z_iconst X (v := nI 4) dX4_mainOf_5 (by decide) ?_
      refine z_icmp_geN X (tgt := 37) (by omega) (by omega) dX4_mainOf_6 (by decide) (fun c6 => ?_) (fun c6 => ?_)
      · obtain rfl : i = 3 := by omega
        refine z_iload_n X 2 dX4_mainOf_37 rfl rfl ?_
        refine z_iret X (Nat.le_of_ble_eq_true rfl) (Nat.le_of_ble_eq_true rfl) ?_ dX4_mainOf_38
        exact ⟨by rw [hs]; rfl, rfl, rfl⟩
      · refine z_aload_n X 0 dX4_mainOf_9 rfl rfl ?_
        refine z_iload_n X 1 dX4_mainOf_10 rfl rfl ?_
        refine z_iload_n X 3 dX4_mainOf_11 rfl rfl ?_
        refine z_callV X (n := 2) (As := [.int (nI j), .int (nI (i + 1))]) (rest := []) 0 rfl rfl rfl (m_gramsOf l G cy B ad cn u w x hc0 j hj (nI (i + 1))) q_671 q_672 q_15 q_29 q_673 (by decide +kernel) ⟨Nat.le_of_ble_eq_true rfl, Nat.le_of_ble_eq_true rfl⟩ rfl rfl (Nat.le_of_ble_eq_true rfl) dX4_mainOf_12 ⟨Nat.le_of_ble_eq_true rfl, Nat.le_of_ble_eq_true rfl⟩ (fun v ad' f' hp had => ?_)
        obtain ⟨rfl, rfl, rfl⟩ := hp
        refine z_st (st' := [.long (gramsM cn u w j (nI (i + 1)))]) rfl ?_
        refine z_aload_n X 0 dX4_mainOf_15 rfl rfl ?_
        refine z_iload_n X 1 dX4_mainOf_16 rfl rfl ?_
        refine z_iload_n X 2 dX4_mainOf_17 rfl rfl ?_
        refine z_callV X (n := 2) (As := [.int (nI j), .int (nI mv)]) (rest := [.long (gramsM cn u w j (nI (i + 1)))]) 0 rfl rfl rfl (m_gramsOf l G cy B ad cn u w x hc0 j hj (nI mv)) q_671 q_672 q_15 q_29 q_673 (by decide +kernel) ⟨Nat.le_of_ble_eq_true rfl, Nat.le_of_ble_eq_true rfl⟩ rfl rfl (Nat.le_of_ble_eq_true rfl) dX4_mainOf_18 ⟨Nat.le_of_ble_eq_true rfl, Nat.le_of_ble_eq_true rfl⟩ (fun v ad' f' hp had => ?_)
        obtain ⟨rfl, rfl, rfl⟩ := hp
        refine z_st (st' := [.long (gramsM cn u w j (nI mv)), .long (gramsM cn u w j (nI (i + 1)))]) rfl ?_
        refine z_lcmp_le X (tgt := 29) dX4_mainOf_21 dX4_mainOf_22 (by decide) (fun c21 => ?_) (fun c21 => ?_)
        · refine z_iload_n X 2 dX4_mainOf_29 rfl rfl ?_
          refine z_istore_n X (lv' := [(2, .int (nI mv)), (0, .ref (ad 0)), (1, .int (nI j)), (3, .int (nI (i + 1)))]) dX4_mainOf_30 rfl (by decide) rfl ?_
          refine z_iincN X 3 (k := 1) (lv' := [(3, .int (nI (i + 1 + 1))), (2, .int (nI mv)), (0, .ref (ad 0)), (1, .int (nI j))]) dX4_mainOf_31 rfl (by decide) (by decide) rfl ?_
          refine z_goto X (tgt := 4) dX4_mainOf_34 (by decide) ?_
          refine z_lv (lv' := [(0, .ref (ad 0)), (1, .int (nI j)), (2, .int (nI mv)), (3, .int (nI (i + 1 + 1)))]) [2, 3, 1, 0] rfl ?_
          exact ih4 (i + 1) mv (by omega) (by subst hs; exact (if_neg (Int64.not_lt.mpr c21)).symm) (by omega)
        · refine z_iload_n X 3 dX4_mainOf_25 rfl rfl ?_
          refine z_goto X (tgt := 30) dX4_mainOf_26 (by decide) ?_
          refine z_istore_n X (lv' := [(2, .int (nI (i + 1))), (0, .ref (ad 0)), (1, .int (nI j)), (3, .int (nI (i + 1)))]) dX4_mainOf_30 rfl (by decide) rfl ?_
          refine z_iincN X 3 (k := 1) (lv' := [(3, .int (nI (i + 1 + 1))), (2, .int (nI (i + 1))), (0, .ref (ad 0)), (1, .int (nI j))]) dX4_mainOf_31 rfl (by decide) (by decide) rfl ?_
          refine z_goto X (tgt := 4) dX4_mainOf_34 (by decide) ?_
          refine z_lv (lv' := [(0, .ref (ad 0)), (1, .int (nI j)), (2, .int (nI (i + 1))), (3, .int (nI (i + 1 + 1)))]) [2, 3, 1, 0] rfl ?_
          exact ih4 (i + 1) (i + 1) (by omega) (by subst hs; exact (if_pos (Int64.not_le.mp c21)).symm) (by omega)
  exact lp4 (3 + 1) 0 0 (by omega) (by rfl) (by omega)
set_option maxHeartbeats 4000000 in
set_option maxRecDepth 100000 in
theorem m_in_i (l : Launch) (G : va_G) (cy : Nat → ClassId) (B : Nat) (ad : Nat → Nat) (cn : Nat → Nat) (u : Nat → Nat → Int32) (w : Nat → Nat → Int64) (x : Nat → Nat → UInt64) (hc0 : cn 0 ≤ 200) (hc5 : cn 5 ≤ 12) (j : Nat) (hj : j < cn 5) (k : Int32) : Ct l G cy B yX4_in cX4_in 3 (some .long) ({ frames := 2, cells := 0, slots := 0, locals := 49 } : Room) ad (MF cy ad cn u w x) [.ref (ad 0), .int (nI j), .int k] (fun v ad' f' => v = some (.long (if okKind k then gramsM cn u w j k else -1)) ∧ ad = ad' ∧ MF cy ad cn u w x = f') := by
  refine ct_of (by decide +kernel) (Nat.le_of_ble_eq_true rfl) ?_
  intro p e s m args below meth c X hnm
  refine z_lv (lv' := [(0, .ref (ad 0)), (1, .int (nI j)), (2, .int k)]) [0, 1, 2] rfl ?_
  refine z_aload_n X 0 dX4_in_0 rfl rfl ?_
  refine z_iload_n X 1 dX4_in_1 rfl rfl ?_
  refine z_callV X (n := 1) (As := [.int (nI j)]) (rest := []) 0 rfl rfl rfl (m_isBale l G cy B ad cn u w x (nI j)) q_668 q_669 q_14 q_29 q_670 (by decide +kernel) ⟨Nat.le_of_ble_eq_true rfl, Nat.le_of_ble_eq_true rfl⟩ rfl rfl (Nat.le_of_ble_eq_true rfl) dX4_in_2 ⟨Nat.le_of_ble_eq_true rfl, Nat.le_of_ble_eq_true rfl⟩ (fun v ad' f' hp had => ?_)
  obtain ⟨rfl, rfl, rfl⟩ := hp
  refine z_st (st' := [.int (nI (if ¬ (nI j) < 0 ∧ ¬ nI (cn 5) ≤ (nI j) then 1 else 0))]) rfl ?_
  refine z_if_eqB X (tgt := 24) dX4_in_5 (by decide) (fun c5 => by exfalso; exact c5 ⟨nI_pos (by omega), nI_ge (by omega) (by omega)⟩) (fun c5 => ?_)
  refine z_iload_n X 2 dX4_in_8 rfl rfl ?_
  refine z_callS X (n := 1) (As := [.int k]) (rest := []) (c_X4_isKind l G cy B ad (MF cy ad cn u w x) k) q_648 q_649 q_29 q_650 (by decide +kernel) ⟨Nat.le_of_ble_eq_true rfl, Nat.le_of_ble_eq_true rfl⟩ rfl rfl (Nat.le_of_ble_eq_true rfl) dX4_in_9 ⟨Nat.le_of_ble_eq_true rfl, Nat.le_of_ble_eq_true rfl⟩ (fun v ad' f' hp had => ?_)
  obtain ⟨rfl, rfl, rfl⟩ := hp
  refine z_st (st' := [.int (nI (if okKind k then 1 else 0))]) rfl ?_
  refine z_if_eqB X (tgt := 24) dX4_in_12 (by decide) (fun c12 => ?_) (fun c12 => ?_)
  · refine z_ldc2 X dX4_in_24 q_677 ?_
    refine z_lret X (Nat.le_of_ble_eq_true rfl) (Nat.le_of_ble_eq_true rfl) ?_ dX4_in_27
    exact ⟨by first | rw [if_pos c12] | rw [if_neg c12], rfl, rfl⟩
  · refine z_aload_n X 0 dX4_in_15 rfl rfl ?_
    refine z_iload_n X 1 dX4_in_16 rfl rfl ?_
    refine z_iload_n X 2 dX4_in_17 rfl rfl ?_
    refine z_callV X (n := 2) (As := [.int (nI j), .int k]) (rest := []) 0 rfl rfl rfl (m_gramsOf l G cy B ad cn u w x hc0 j (by omega) k) q_671 q_672 q_15 q_29 q_673 (by decide +kernel) ⟨Nat.le_of_ble_eq_true rfl, Nat.le_of_ble_eq_true rfl⟩ rfl rfl (Nat.le_of_ble_eq_true rfl) dX4_in_18 ⟨Nat.le_of_ble_eq_true rfl, Nat.le_of_ble_eq_true rfl⟩ (fun v ad' f' hp had => ?_)
    obtain ⟨rfl, rfl, rfl⟩ := hp
    refine z_st (st' := [.long (gramsM cn u w j k)]) rfl ?_
    refine z_goto X (tgt := 27) dX4_in_21 (by decide) ?_
    refine z_lret X (Nat.le_of_ble_eq_true rfl) (Nat.le_of_ble_eq_true rfl) ?_ dX4_in_27
    exact ⟨by first | rw [if_pos c12] | rw [if_neg c12], rfl, rfl⟩
set_option maxHeartbeats 4000000 in
set_option maxRecDepth 100000 in
theorem m_in_o (l : Launch) (G : va_G) (cy : Nat → ClassId) (B : Nat) (ad : Nat → Nat) (cn : Nat → Nat) (u : Nat → Nat → Int32) (w : Nat → Nat → Int64) (x : Nat → Nat → UInt64) (b : Int32) (hb : ¬ (¬ b < 0 ∧ ¬ nI (cn 5) ≤ b)) (k : Int32) : Ct l G cy B yX4_in cX4_in 3 (some .long) ({ frames := 1, cells := 0, slots := 0, locals := 21 } : Room) ad (MF cy ad cn u w x) [.ref (ad 0), .int b, .int k] (fun v ad' f' => v = some (.long (-1)) ∧ ad = ad' ∧ MF cy ad cn u w x = f') := by
  refine ct_of (by decide +kernel) (Nat.le_of_ble_eq_true rfl) ?_
  intro p e s m args below meth c X hnm
  refine z_lv (lv' := [(0, .ref (ad 0)), (1, .int b), (2, .int k)]) [0, 1, 2] rfl ?_
  refine z_aload_n X 0 dX4_in_0 rfl rfl ?_
  refine z_iload_n X 1 dX4_in_1 rfl rfl ?_
  refine z_callV X (n := 1) (As := [.int b]) (rest := []) 0 rfl rfl rfl (m_isBale l G cy B ad cn u w x b) q_668 q_669 q_14 q_29 q_670 (by decide +kernel) ⟨Nat.le_of_ble_eq_true rfl, Nat.le_of_ble_eq_true rfl⟩ rfl rfl (Nat.le_of_ble_eq_true rfl) dX4_in_2 ⟨Nat.le_of_ble_eq_true rfl, Nat.le_of_ble_eq_true rfl⟩ (fun v ad' f' hp had => ?_)
  obtain ⟨rfl, rfl, rfl⟩ := hp
  refine z_st (st' := [.int (nI (if ¬ b < 0 ∧ ¬ nI (cn 5) ≤ b then 1 else 0))]) rfl ?_
  refine z_if_eqB X (tgt := 24) dX4_in_5 (by decide) (fun c5 => ?_) (fun c5 => by exfalso; exact hb c5)
  refine z_ldc2 X dX4_in_24 q_677 ?_
  refine z_lret X (Nat.le_of_ble_eq_true rfl) (Nat.le_of_ble_eq_true rfl) ?_ dX4_in_27
  exact ⟨rfl, rfl, rfl⟩
set_option maxHeartbeats 4000000 in
set_option maxRecDepth 100000 in
theorem m_count (l : Launch) (G : va_G) (cy : Nat → ClassId) (B : Nat) (ad : Nat → Nat) (cn : Nat → Nat) (u : Nat → Nat → Int32) (w : Nat → Nat → Int64) (x : Nat → Nat → UInt64) (hc0 : cn 0 ≤ 200) (k : Int32) : Ct l G cy B yX4_count cX4_count 5 (some .long) ({ frames := 1, cells := 0, slots := 0, locals := 20 } : Room) ad (MF cy ad cn u w x) [.ref (ad 0), .int k] (fun v ad' f' => v = some (.long (if okKind k then countM cn u w k else -1)) ∧ ad = ad' ∧ MF cy ad cn u w x = f') := by
  refine ct_of (by decide +kernel) (Nat.le_of_ble_eq_true rfl) ?_
  intro p e s m args below meth c X hnm
  refine z_lv (lv' := [(0, .ref (ad 0)), (1, .int k)]) [0, 1] rfl ?_
  refine z_iload_n X 1 dX4_count_0 rfl rfl ?_
  refine z_callS X (n := 1) (As := [.int k]) (rest := []) (c_X4_isKind l G cy B ad (MF cy ad cn u w x) k) q_648 q_649 q_29 q_650 (by decide +kernel) ⟨Nat.le_of_ble_eq_true rfl, Nat.le_of_ble_eq_true rfl⟩ rfl rfl (Nat.le_of_ble_eq_true rfl) dX4_count_1 ⟨Nat.le_of_ble_eq_true rfl, Nat.le_of_ble_eq_true rfl⟩ (fun v ad' f' hp had => ?_)
  obtain ⟨rfl, rfl, rfl⟩ := hp
  refine z_st (st' := [.int (nI (if okKind k then 1 else 0))]) rfl ?_
  refine z_if_neB X (tgt := 11) dX4_count_4 (by decide) (fun c4 => ?_) (fun c4 => ?_)
  · refine z_lconst X (v := 0) dX4_count_11 rfl ?_
    refine z_lstore_n X (lv' := [(2, .long 0), (0, .ref (ad 0)), (1, .int k)]) dX4_count_12 rfl (by decide) rfl ?_
    refine z_iconst X (v := nI 0) dX4_count_13 (by decide) ?_
    refine z_istore X (lv' := [(4, .int (nI 0)), (2, .long 0), (0, .ref (ad 0)), (1, .int k)]) dX4_count_14 (by decide) rfl ?_
    refine z_lv (lv' := [(0, .ref (ad 0)), (1, .int k), (2, .long 0), (4, .int (nI 0))]) [2, 3, 1, 0] rfl ?_
    have lp16 : ∀ (fu16 : Nat) (i : Nat) (sv : Int64), (i ≤ cn 0) → (sv = sumL (fun f => if u 4 f < 0 ∧ u 2 f = k then w 3 f else 0) i) → cn 0 + 1 ≤ i + fu16 → Z G B 5 ad (MF cy ad cn u w x) p l e ({ frames := 1, cells := 0, slots := 0, locals := 20 } : Room) s m args below meth c (zEnd G B ad (MF cy ad cn u w x) below args s ({ frames := 1, cells := 0, slots := 0, locals := 20 } : Room) (fun v ad' f' => v = some (.long (if okKind k then countM cn u w k else -1)) ∧ ad = ad' ∧ MF cy ad cn u w x = f')) ad (MF cy ad cn u w x) 0 0 16 [(0, .ref (ad 0)), (1, .int k), (2, .long sv), (4, .int (nI i))] [] := by
      intro fu16
      induction fu16 with
      | zero => intro i sv hi hs hm16; exact absurd hm16 (by omega)
      | succ fu16 ih16 =>
        intro i sv hi hs hm16
        refine z_iload X 3 dX4_count_16 rfl ?_
        refine z_aload_n X 0 dX4_count_18 rfl rfl ?_
        refine z_get X (v := .int (nI (cn 0))) 0 0 wa_X4 rfl rfl rfl (by decide) q_559 rfl rfl dX4_count_19 ?_
        refine z_icmp_geN X (tgt := 66) (by omega) (by omega) dX4_count_22 (by decide) (fun c22 => ?_) (fun c22 => ?_)
        · obtain rfl : i = cn 0 := by omega
          refine z_lload_n X 2 dX4_count_66 rfl rfl ?_
          refine z_lret X (Nat.le_of_ble_eq_true rfl) (Nat.le_of_ble_eq_true rfl) ?_ dX4_count_67
          exact ⟨by rw [if_pos c4, hs]; rfl, rfl, rfl⟩
        · refine z_lload_n X 2 dX4_count_25 rfl rfl ?_
          refine z_aload_n X 0 dX4_count_26 rfl rfl ?_
          refine z_get X (v := .ref (ad 4)) 0 4 wa_X4 rfl rfl rfl (by decide) q_563 rfl rfl dX4_count_27 ?_
          refine z_iload X 3 dX4_count_30 rfl ?_
          refine z_ialdN X (n := 200) (g := u 4) 4 rfl rfl (by omega) (by decide) dX4_count_32 ?_
          refine z_if_ge X (tgt := 57) dX4_count_33 (by decide) (fun c33 => ?_) (fun c33 => ?_)
          · refine z_lconst X (v := 0) dX4_count_57 rfl ?_
            refine z_ladd X dX4_count_58 ?_
            refine z_lstore_n X (lv' := [(2, .long (sv + 0)), (0, .ref (ad 0)), (1, .int k), (4, .int (nI i))]) dX4_count_59 rfl (by decide) rfl ?_
            refine z_iincN X 3 (k := 1) (lv' := [(4, .int (nI (i + 1))), (2, .long (sv + 0)), (0, .ref (ad 0)), (1, .int k)]) dX4_count_60 rfl (by decide) (by decide) rfl ?_
            refine z_goto X (tgt := 16) dX4_count_63 (by decide) ?_
            refine z_lv (lv' := [(0, .ref (ad 0)), (1, .int k), (2, .long (sv + 0)), (4, .int (nI (i + 1)))]) [2, 3, 1, 0] rfl ?_
            exact ih16 (i + 1) (sv + 0) (by omega) (by exact sumL_f hs (fun h => absurd h.1 (Int32.not_lt.mpr c33))) (by omega)
          · refine z_aload_n X 0 dX4_count_36 rfl rfl ?_
            refine z_get X (v := .ref (ad 2)) 0 2 wa_X4 rfl rfl rfl (by decide) q_561 rfl rfl dX4_count_37 ?_
            refine z_iload X 3 dX4_count_40 rfl ?_
            refine z_ialdN X (n := 200) (g := u 2) 2 rfl rfl (by omega) (by decide) dX4_count_42 ?_
            refine z_iload_n X 1 dX4_count_43 rfl rfl ?_
            refine z_icmp_ne X (tgt := 57) dX4_count_44 (by decide) (fun c44 => ?_) (fun c44 => ?_)
            · refine z_lconst X (v := 0) dX4_count_57 rfl ?_
              refine z_ladd X dX4_count_58 ?_
              refine z_lstore_n X (lv' := [(2, .long (sv + 0)), (0, .ref (ad 0)), (1, .int k), (4, .int (nI i))]) dX4_count_59 rfl (by decide) rfl ?_
              refine z_iincN X 3 (k := 1) (lv' := [(4, .int (nI (i + 1))), (2, .long (sv + 0)), (0, .ref (ad 0)), (1, .int k)]) dX4_count_60 rfl (by decide) (by decide) rfl ?_
              refine z_goto X (tgt := 16) dX4_count_63 (by decide) ?_
              refine z_lv (lv' := [(0, .ref (ad 0)), (1, .int k), (2, .long (sv + 0)), (4, .int (nI (i + 1)))]) [2, 3, 1, 0] rfl ?_
              exact ih16 (i + 1) (sv + 0) (by omega) (by exact sumL_f hs (fun h => c44 h.2)) (by omega)
            · refine z_aload_n X 0 dX4_count_47 rfl rfl ?_
              refine z_get X (v := .ref (ad 3)) 0 3 wa_X4 rfl rfl rfl (by decide) q_562 rfl rfl dX4_count_48 ?_
              refine z_iload X 3 dX4_count_51 rfl ?_
              refine z_laldN X (n := 200) (g := w 3) 3 rfl rfl (by omega) (by decide) dX4_count_53 ?_
              refine z_goto X (tgt := 58) dX4_count_54 (by decide) ?_
              refine z_ladd X dX4_count_58 ?_
              refine z_lstore_n X (lv' := [(2, .long (sv + ((w 3) i))), (0, .ref (ad 0)), (1, .int k), (4, .int (nI i))]) dX4_count_59 rfl (by decide) rfl ?_
              refine z_iincN X 3 (k := 1) (lv' := [(4, .int (nI (i + 1))), (2, .long (sv + ((w 3) i))), (0, .ref (ad 0)), (1, .int k)]) dX4_count_60 rfl (by decide) (by decide) rfl ?_
              refine z_goto X (tgt := 16) dX4_count_63 (by decide) ?_
              refine z_lv (lv' := [(0, .ref (ad 0)), (1, .int k), (2, .long (sv + ((w 3) i))), (4, .int (nI (i + 1)))]) [2, 3, 1, 0] rfl ?_
              exact ih16 (i + 1) (sv + ((w 3) i)) (by omega) (by exact sumL_t hs ⟨Int32.not_le.mp c33, c44⟩) (by omega)
    exact lp16 (cn 0 + 1) 0 0 (by omega) (by rfl) (by omega)
  · refine z_ldc2 X dX4_count_7 q_677 ?_
    refine z_lret X (Nat.le_of_ble_eq_true rfl) (Nat.le_of_ble_eq_true rfl) ?_ dX4_count_10
    exact ⟨by rw [if_neg c4], rfl, rfl⟩
set_option maxHeartbeats 4000000 in
set_option maxRecDepth 100000 in
theorem m_wires_i (l : Launch) (G : va_G) (cy : Nat → ClassId) (B : Nat) (ad : Nat → Nat) (cn : Nat → Nat) (u : Nat → Nat → Int32) (w : Nat → Nat → Int64) (x : Nat → Nat → UInt64) (hc0 : cn 0 ≤ 200) (hc5 : cn 5 ≤ 12) (j : Nat) (hj : j < cn 5) : Ct l G cy B yX4_wires cX4_wires 4 (some .int) ({ frames := 3, cells := 0, slots := 0, locals := 73 } : Room) ad (MF cy ad cn u w x) [.ref (ad 0), .int (nI j)] (fun v ad' f' => v = some (.int (wiresOf ((weightM cn u w j + 99999) / 100000))) ∧ ad = ad' ∧ MF cy ad cn u w x = f') := by
  refine ct_of (by decide +kernel) (Nat.le_of_ble_eq_true rfl) ?_
  intro p e s m args below meth c X hnm
  refine z_lv (lv' := [(0, .ref (ad 0)), (1, .int (nI j))]) [0, 1] rfl ?_
  refine z_aload_n X 0 dX4_wires_0 rfl rfl ?_
  refine z_iload_n X 1 dX4_wires_1 rfl rfl ?_
  refine z_callV X (n := 1) (As := [.int (nI j)]) (rest := []) 0 rfl rfl rfl (m_isBale l G cy B ad cn u w x (nI j)) q_668 q_669 q_14 q_29 q_670 (by decide +kernel) ⟨Nat.le_of_ble_eq_true rfl, Nat.le_of_ble_eq_true rfl⟩ rfl rfl (Nat.le_of_ble_eq_true rfl) dX4_wires_2 ⟨Nat.le_of_ble_eq_true rfl, Nat.le_of_ble_eq_true rfl⟩ (fun v ad' f' hp had => ?_)
  obtain ⟨rfl, rfl, rfl⟩ := hp
  refine z_st (st' := [.int (nI (if ¬ (nI j) < 0 ∧ ¬ nI (cn 5) ≤ (nI j) then 1 else 0))]) rfl ?_
  refine z_if_neB X (tgt := 10) dX4_wires_5 (by decide) (fun c5 => ?_) (fun c5 => by exfalso; exact c5 ⟨nI_pos (by omega), nI_ge (by omega) (by omega)⟩)
  refine z_aload_n X 0 dX4_wires_10 rfl rfl ?_
  refine z_iload_n X 1 dX4_wires_11 rfl rfl ?_
  refine z_callV X (n := 1) (As := [.int (nI j)]) (rest := []) 0 rfl rfl rfl (m_weight l G cy B ad cn u w x hc0 j (by omega)) q_686 q_687 q_17 q_29 q_688 (by decide +kernel) ⟨Nat.le_of_ble_eq_true rfl, Nat.le_of_ble_eq_true rfl⟩ rfl rfl (Nat.le_of_ble_eq_true rfl) dX4_wires_12 ⟨Nat.le_of_ble_eq_true rfl, Nat.le_of_ble_eq_true rfl⟩ (fun v ad' f' hp had => ?_)
  obtain ⟨rfl, rfl, rfl⟩ := hp
  refine z_st (st' := [.long (weightM cn u w j)]) rfl ?_
  refine z_ldc2 X dX4_wires_15 q_689 ?_
  refine z_ladd X dX4_wires_18 ?_
  refine z_ldc2 X dX4_wires_19 q_690 ?_
  refine z_ldiv X dX4_wires_22 (by decide) ?_
  refine z_lstore_n X (lv' := [(2, .long (((weightM cn u w j) + 99999) / 100000)), (0, .ref (ad 0)), (1, .int (nI j))]) dX4_wires_23 rfl (by decide) rfl ?_
  refine z_lload_n X 0 dX4_wires_24 rfl rfl ?_
  refine z_ldc2 X dX4_wires_25 q_691 ?_
  refine z_lcmp_ge X (tgt := 36) dX4_wires_28 dX4_wires_29 (by decide) (fun c28 => ?_) (fun c28 => ?_)
  · refine z_lload_n X 0 dX4_wires_36 rfl rfl ?_
    refine z_l2i X dX4_wires_37 ?_
    refine z_iret X (Nat.le_of_ble_eq_true rfl) (Nat.le_of_ble_eq_true rfl) ?_ dX4_wires_38
    exact ⟨by unfold wiresOf; first | rw [if_pos (Int64.not_le.mp c28)] | rw [if_neg (Int64.not_lt.mpr c28)], rfl, rfl⟩
  · refine z_iconst X (v := nI 3) dX4_wires_32 (by decide) ?_
    refine z_goto X (tgt := 38) dX4_wires_33 (by decide) ?_
    refine z_iret X (Nat.le_of_ble_eq_true rfl) (Nat.le_of_ble_eq_true rfl) ?_ dX4_wires_38
    exact ⟨by unfold wiresOf; first | rw [if_pos (Int64.not_le.mp c28)] | rw [if_neg (Int64.not_lt.mpr c28)], rfl, rfl⟩
set_option maxHeartbeats 4000000 in
set_option maxRecDepth 100000 in
theorem m_wires_o (l : Launch) (G : va_G) (cy : Nat → ClassId) (B : Nat) (ad : Nat → Nat) (cn : Nat → Nat) (u : Nat → Nat → Int32) (w : Nat → Nat → Int64) (x : Nat → Nat → UInt64) (b : Int32) (hb : ¬ (¬ b < 0 ∧ ¬ nI (cn 5) ≤ b)) : Ct l G cy B yX4_wires cX4_wires 4 (some .int) ({ frames := 1, cells := 0, slots := 0, locals := 21 } : Room) ad (MF cy ad cn u w x) [.ref (ad 0), .int b] (fun v ad' f' => v = some (.int (-1)) ∧ ad = ad' ∧ MF cy ad cn u w x = f') := by
  refine ct_of (by decide +kernel) (Nat.le_of_ble_eq_true rfl) ?_
  intro p e s m args below meth c X hnm
  refine z_lv (lv' := [(0, .ref (ad 0)), (1, .int b)]) [0, 1] rfl ?_
  refine z_aload_n X 0 dX4_wires_0 rfl rfl ?_
  refine z_iload_n X 1 dX4_wires_1 rfl rfl ?_
  refine z_callV X (n := 1) (As := [.int b]) (rest := []) 0 rfl rfl rfl (m_isBale l G cy B ad cn u w x b) q_668 q_669 q_14 q_29 q_670 (by decide +kernel) ⟨Nat.le_of_ble_eq_true rfl, Nat.le_of_ble_eq_true rfl⟩ rfl rfl (Nat.le_of_ble_eq_true rfl) dX4_wires_2 ⟨Nat.le_of_ble_eq_true rfl, Nat.le_of_ble_eq_true rfl⟩ (fun v ad' f' hp had => ?_)
  obtain ⟨rfl, rfl, rfl⟩ := hp
  refine z_st (st' := [.int (nI (if ¬ b < 0 ∧ ¬ nI (cn 5) ≤ b then 1 else 0))]) rfl ?_
  refine z_if_neB X (tgt := 10) dX4_wires_5 (by decide) (fun c5 => by exfalso; exact hb c5) (fun c5 => ?_)
  refine z_iconst X (v := -1) dX4_wires_8 (by decide) ?_
  refine z_iret X (Nat.le_of_ble_eq_true rfl) (Nat.le_of_ble_eq_true rfl) ?_ dX4_wires_9
  exact ⟨rfl, rfl, rfl⟩
set_option maxHeartbeats 4000000 in
set_option maxRecDepth 100000 in
theorem m_size_i (l : Launch) (G : va_G) (cy : Nat → ClassId) (B : Nat) (ad : Nat → Nat) (cn : Nat → Nat) (u : Nat → Nat → Int32) (w : Nat → Nat → Int64) (x : Nat → Nat → UInt64) (hc0 : cn 0 ≤ 200) (hc5 : cn 5 ≤ 12) (j : Nat) (hj : j < cn 5) (p0 : UInt64) : Ct l G cy B yX4_size cX4_size 6 (some .double) ({ frames := 3, cells := 0, slots := 0, locals := 73 } : Room) ad (MF cy ad cn u w x) [.ref (ad 0), .int (nI j), .double p0] (fun v ad' f' => (∃ r, v = some (.double r) ∧ (if dGe p0 4607182418800017408 = true ∧ dLe p0 4634204016564240384 = true then sizeR (weightM cn u w j) p0 r else r = 13830554455654793216)) ∧ ad = ad' ∧ MF cy ad cn u w x = f') := by
  refine ct_of (by decide +kernel) (Nat.le_of_ble_eq_true rfl) ?_
  intro p e s m args below meth c X hnm
  refine z_lv (lv' := [(0, .ref (ad 0)), (1, .int (nI j)), (2, .double p0)]) [0, 1, 2] rfl ?_
  refine z_aload_n X 0 dX4_size_0 rfl rfl ?_
  refine z_iload_n X 1 dX4_size_1 rfl rfl ?_
  refine z_callV X (n := 1) (As := [.int (nI j)]) (rest := []) 0 rfl rfl rfl (m_isBale l G cy B ad cn u w x (nI j)) q_668 q_669 q_14 q_29 q_670 (by decide +kernel) ⟨Nat.le_of_ble_eq_true rfl, Nat.le_of_ble_eq_true rfl⟩ rfl rfl (Nat.le_of_ble_eq_true rfl) dX4_size_2 ⟨Nat.le_of_ble_eq_true rfl, Nat.le_of_ble_eq_true rfl⟩ (fun v ad' f' hp had => ?_)
  obtain ⟨rfl, rfl, rfl⟩ := hp
  refine z_st (st' := [.int (nI (if ¬ (nI j) < 0 ∧ ¬ nI (cn 5) ≤ (nI j) then 1 else 0))]) rfl ?_
  refine z_if_eqB X (tgt := 19) dX4_size_5 (by decide) (fun c5 => by exfalso; exact c5 ⟨nI_pos (by omega), nI_ge (by omega) (by omega)⟩) (fun c5 => ?_)
  refine z_dload_n X 2 dX4_size_8 rfl rfl ?_
  refine z_dconst1 X dX4_size_9 ?_
  refine z_ldc2d X dX4_size_10 q_696 ?_
  refine z_callS X (n := 3) (As := [.double p0, .double 4607182418800017408, .double 4634204016564240384]) (rest := []) (c_X4_isWithin l G cy B ad (MF cy ad cn u w x) p0 4607182418800017408 4634204016564240384) q_697 q_698 q_29 q_699 (by decide +kernel) ⟨Nat.le_of_ble_eq_true rfl, Nat.le_of_ble_eq_true rfl⟩ rfl rfl (Nat.le_of_ble_eq_true rfl) dX4_size_13 ⟨Nat.le_of_ble_eq_true rfl, Nat.le_of_ble_eq_true rfl⟩ (fun v ad' f' hp had => ?_)
  obtain ⟨rfl, rfl, rfl⟩ := hp
  refine z_st (st' := [.int (nI (if dGe p0 4607182418800017408 = true ∧ dLe p0 4634204016564240384 = true then 1 else 0))]) rfl ?_
  refine z_if_neB X (tgt := 23) dX4_size_16 (by decide) (fun c16 => ?_) (fun c16 => ?_)
  · refine z_aload_n X 0 dX4_size_23 rfl rfl ?_
    refine z_iload_n X 1 dX4_size_24 rfl rfl ?_
    refine z_callV X (n := 1) (As := [.int (nI j)]) (rest := []) 0 rfl rfl rfl (m_weight l G cy B ad cn u w x hc0 j (by omega)) q_686 q_687 q_17 q_29 q_688 (by decide +kernel) ⟨Nat.le_of_ble_eq_true rfl, Nat.le_of_ble_eq_true rfl⟩ rfl rfl (Nat.le_of_ble_eq_true rfl) dX4_size_25 ⟨Nat.le_of_ble_eq_true rfl, Nat.le_of_ble_eq_true rfl⟩ (fun v ad' f' hp had => ?_)
    obtain ⟨rfl, rfl, rfl⟩ := hp
    refine z_st (st' := [.long (weightM cn u w j)]) rfl ?_
    refine z_l2d X dX4_size_28 ?_
    refine z_ldc2d X dX4_size_29 q_701 ?_
    refine z_dmul X dX4_size_32 (fun r32 hr32 => ?_)
    refine z_dload_n X 2 dX4_size_33 rfl rfl ?_
    refine z_ddiv X dX4_size_34 (fun r34 hr34 => ?_)
    refine z_dstore X (lv' := [(4, .double r34), (0, .ref (ad 0)), (1, .int (nI j)), (2, .double p0)]) dX4_size_35 (by decide) rfl ?_
    refine z_dload X 0 dX4_size_37 rfl ?_
    refine z_dload X 0 dX4_size_39 rfl ?_
    refine z_ldc2d X dX4_size_41 q_702 ?_
    refine z_dmul X dX4_size_44 (fun r44 hr44 => ?_)
    refine z_dadd X dX4_size_45 (fun r45 hr45 => ?_)
    refine z_dret X (Nat.le_of_ble_eq_true rfl) (Nat.le_of_ble_eq_true rfl) ?_ dX4_size_46
    exact ⟨⟨_, rfl, by rw [if_pos c16]; exact ⟨r32, r34, r44, hr32, hr34, hr44, hr45⟩⟩, rfl, rfl⟩
  · refine z_ldc2d X dX4_size_19 q_700 ?_
    refine z_dret X (Nat.le_of_ble_eq_true rfl) (Nat.le_of_ble_eq_true rfl) ?_ dX4_size_22
    exact ⟨⟨_, rfl, by rw [if_neg c16]⟩, rfl, rfl⟩
set_option maxHeartbeats 4000000 in
set_option maxRecDepth 100000 in
theorem m_size_o (l : Launch) (G : va_G) (cy : Nat → ClassId) (B : Nat) (ad : Nat → Nat) (cn : Nat → Nat) (u : Nat → Nat → Int32) (w : Nat → Nat → Int64) (x : Nat → Nat → UInt64) (b : Int32) (hb : ¬ (¬ b < 0 ∧ ¬ nI (cn 5) ≤ b)) (p0 : UInt64) : Ct l G cy B yX4_size cX4_size 6 (some .double) ({ frames := 1, cells := 0, slots := 0, locals := 21 } : Room) ad (MF cy ad cn u w x) [.ref (ad 0), .int b, .double p0] (fun v ad' f' => (∃ r, v = some (.double r) ∧ r = 13830554455654793216) ∧ ad = ad' ∧ MF cy ad cn u w x = f') := by
  refine ct_of (by decide +kernel) (Nat.le_of_ble_eq_true rfl) ?_
  intro p e s m args below meth c X hnm
  refine z_lv (lv' := [(0, .ref (ad 0)), (1, .int b), (2, .double p0)]) [0, 1, 2] rfl ?_
  refine z_aload_n X 0 dX4_size_0 rfl rfl ?_
  refine z_iload_n X 1 dX4_size_1 rfl rfl ?_
  refine z_callV X (n := 1) (As := [.int b]) (rest := []) 0 rfl rfl rfl (m_isBale l G cy B ad cn u w x b) q_668 q_669 q_14 q_29 q_670 (by decide +kernel) ⟨Nat.le_of_ble_eq_true rfl, Nat.le_of_ble_eq_true rfl⟩ rfl rfl (Nat.le_of_ble_eq_true rfl) dX4_size_2 ⟨Nat.le_of_ble_eq_true rfl, Nat.le_of_ble_eq_true rfl⟩ (fun v ad' f' hp had => ?_)
  obtain ⟨rfl, rfl, rfl⟩ := hp
  refine z_st (st' := [.int (nI (if ¬ b < 0 ∧ ¬ nI (cn 5) ≤ b then 1 else 0))]) rfl ?_
  refine z_if_eqB X (tgt := 19) dX4_size_5 (by decide) (fun c5 => ?_) (fun c5 => by exfalso; exact hb c5)
  refine z_ldc2d X dX4_size_19 q_700 ?_
  refine z_dret X (Nat.le_of_ble_eq_true rfl) (Nat.le_of_ble_eq_true rfl) ?_ dX4_size_22
  exact ⟨⟨_, rfl, rfl⟩, rfl, rfl⟩
set_option maxHeartbeats 4000000 in
set_option maxRecDepth 100000 in
theorem m_state_i (l : Launch) (G : va_G) (cy : Nat → ClassId) (B : Nat) (ad : Nat → Nat) (cn : Nat → Nat) (u : Nat → Nat → Int32) (w : Nat → Nat → Int64) (x : Nat → Nat → UInt64) (hc5 : cn 5 ≤ 12) (j : Nat) (hj : j < cn 5) : Ct l G cy B yX4_state cX4_state 2 (some .int) ({ frames := 1, cells := 0, slots := 0, locals := 21 } : Room) ad (MF cy ad cn u w x) [.ref (ad 0), .int (nI j)] (fun v ad' f' => v = some (.int (u 6 j)) ∧ ad = ad' ∧ MF cy ad cn u w x = f') := by
  refine ct_of (by decide +kernel) (Nat.le_of_ble_eq_true rfl) ?_
  intro p e s m args below meth c X hnm
  refine z_lv (lv' := [(0, .ref (ad 0)), (1, .int (nI j))]) [0, 1] rfl ?_
  refine z_aload_n X 0 dX4_state_0 rfl rfl ?_
  refine z_iload_n X 1 dX4_state_1 rfl rfl ?_
  refine z_callV X (n := 1) (As := [.int (nI j)]) (rest := []) 0 rfl rfl rfl (m_isBale l G cy B ad cn u w x (nI j)) q_668 q_669 q_14 q_29 q_670 (by decide +kernel) ⟨Nat.le_of_ble_eq_true rfl, Nat.le_of_ble_eq_true rfl⟩ rfl rfl (Nat.le_of_ble_eq_true rfl) dX4_state_2 ⟨Nat.le_of_ble_eq_true rfl, Nat.le_of_ble_eq_true rfl⟩ (fun v ad' f' hp had => ?_)
  obtain ⟨rfl, rfl, rfl⟩ := hp
  refine z_st (st' := [.int (nI (if ¬ (nI j) < 0 ∧ ¬ nI (cn 5) ≤ (nI j) then 1 else 0))]) rfl ?_
  refine z_if_eqB X (tgt := 17) dX4_state_5 (by decide) (fun c5 => by exfalso; exact c5 ⟨nI_pos (by omega), nI_ge (by omega) (by omega)⟩) (fun c5 => ?_)
  refine z_aload_n X 0 dX4_state_8 rfl rfl ?_
  refine z_get X (v := .ref (ad 6)) 0 6 wa_X4 rfl rfl rfl (by decide) q_565 rfl rfl dX4_state_9 ?_
  refine z_iload_n X 1 dX4_state_12 rfl rfl ?_
  refine z_ialdN X (n := 12) (g := u 6) 6 rfl rfl (by omega) (by decide) dX4_state_13 ?_
  refine z_goto X (tgt := 18) dX4_state_14 (by decide) ?_
  refine z_iret X (Nat.le_of_ble_eq_true rfl) (Nat.le_of_ble_eq_true rfl) ?_ dX4_state_18
  exact ⟨rfl, rfl, rfl⟩
set_option maxHeartbeats 4000000 in
set_option maxRecDepth 100000 in
theorem m_state_o (l : Launch) (G : va_G) (cy : Nat → ClassId) (B : Nat) (ad : Nat → Nat) (cn : Nat → Nat) (u : Nat → Nat → Int32) (w : Nat → Nat → Int64) (x : Nat → Nat → UInt64) (b : Int32) (hb : ¬ (¬ b < 0 ∧ ¬ nI (cn 5) ≤ b)) : Ct l G cy B yX4_state cX4_state 2 (some .int) ({ frames := 1, cells := 0, slots := 0, locals := 21 } : Room) ad (MF cy ad cn u w x) [.ref (ad 0), .int b] (fun v ad' f' => v = some (.int (-1)) ∧ ad = ad' ∧ MF cy ad cn u w x = f') := by
  refine ct_of (by decide +kernel) (Nat.le_of_ble_eq_true rfl) ?_
  intro p e s m args below meth c X hnm
  refine z_lv (lv' := [(0, .ref (ad 0)), (1, .int b)]) [0, 1] rfl ?_
  refine z_aload_n X 0 dX4_state_0 rfl rfl ?_
  refine z_iload_n X 1 dX4_state_1 rfl rfl ?_
  refine z_callV X (n := 1) (As := [.int b]) (rest := []) 0 rfl rfl rfl (m_isBale l G cy B ad cn u w x b) q_668 q_669 q_14 q_29 q_670 (by decide +kernel) ⟨Nat.le_of_ble_eq_true rfl, Nat.le_of_ble_eq_true rfl⟩ rfl rfl (Nat.le_of_ble_eq_true rfl) dX4_state_2 ⟨Nat.le_of_ble_eq_true rfl, Nat.le_of_ble_eq_true rfl⟩ (fun v ad' f' hp had => ?_)
  obtain ⟨rfl, rfl, rfl⟩ := hp
  refine z_st (st' := [.int (nI (if ¬ b < 0 ∧ ¬ nI (cn 5) ≤ b then 1 else 0))]) rfl ?_
  refine z_if_eqB X (tgt := 17) dX4_state_5 (by decide) (fun c5 => ?_) (fun c5 => by exfalso; exact hb c5)
  refine z_iconst X (v := -1) dX4_state_17 (by decide) ?_
  refine z_iret X (Nat.le_of_ble_eq_true rfl) (Nat.le_of_ble_eq_true rfl) ?_ dX4_state_18
  exact ⟨rfl, rfl, rfl⟩
