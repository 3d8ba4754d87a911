/-! THE LAW FROM ITS ENTRY -/
theorem eo_one {α : Type} (x : α) : (fun _ => x : Nat → α) = eo (fun _ => x) (fun _ => x) := by
  funext j
  unfold eo
  split <;> rfl
theorem zup_eo_e {f g : zW} {y : va_E} (k : Nat) : zup (eo f g) (2 * k) y = eo (zup f k y) g := by
  funext j
  rcases eo_c j with ⟨q, rfl⟩ | ⟨q, rfl⟩
  · rw [eo_e]
    unfold zup
    rw [eo_e]
    by_cases h : q = k
    · rw [if_pos h, if_pos (by omega)]
    · rw [if_neg h, if_neg (by omega)]
  · rw [zup_ne (by omega), eo_o, eo_o]
theorem zup_eo_o {f g : zW} {y : va_E} (k : Nat) : zup (eo f g) (2 * k + 1) y = eo f (zup g k y) := by
  funext j
  rcases eo_c j with ⟨q, rfl⟩ | ⟨q, rfl⟩
  · rw [zup_ne (by omega), eo_e, eo_e]
  · rw [eo_o]
    unfold zup
    rw [eo_o]
    by_cases h : q = k
    · rw [if_pos h, if_pos (by omega)]
    · rw [if_neg h, if_neg (by omega)]
theorem zad_eo_e {f g : Nat → Nat} {y : Nat} (k : Nat) : zad (eo f g) (2 * k) y = eo (zad f k y) g := by
  funext j
  rcases eo_c j with ⟨q, rfl⟩ | ⟨q, rfl⟩
  · rw [eo_e]
    unfold zad
    rw [eo_e]
    by_cases h : q = k
    · rw [if_pos h, if_pos (by omega)]
    · rw [if_neg h, if_neg (by omega)]
  · rw [zad_ne (by omega), eo_o, eo_o]
theorem zad_eo_o {f g : Nat → Nat} {y : Nat} (k : Nat) : zad (eo f g) (2 * k + 1) y = eo f (zad g k y) := by
  funext j
  rcases eo_c j with ⟨q, rfl⟩ | ⟨q, rfl⟩
  · rw [zad_ne (by omega), eo_e, eo_e]
  · rw [eo_o]
    unfold zad
    rw [eo_o]
    by_cases h : q = k
    · rw [if_pos h, if_pos (by omega)]
    · rw [if_neg h, if_neg (by omega)]
theorem z_wd {G : va_G} {B nL : Nat} {ad0 : Nat → Nat} {f0 : zW} {p : Program} {l : Launch} {e : Env} {R : Room} {s : State} {m : MethodId} {args : Array Value} {below : List Frame} {meth : Method} {c : Code} {Q : State → Prop} {A A' : Nat → Nat} {F F' : zW} {cells slots pc : Nat} {lv : List (Nat × Value)} {st : List Value} (hA : A = A') (hF : F = F') (k : Z G B nL ad0 f0 p l e R s m args below meth c Q A' F' cells slots pc lv st) : Z G B nL ad0 f0 p l e R s m args below meth c Q A F cells slots pc lv st := by
  rw [hA, hF]
  exact k
set_option maxHeartbeats 4000000 in
set_option maxRecDepth 100000 in
theorem law_main {G : va_G} {cy : Nat → ClassId} {p : Program} {l : Launch} {e : Env} {s : State} {m : MethodId} {args : Array Value} {below : List Frame} {meth : Method} {c : Code} {Q : State → Prop} {ret : Option FieldType} {b L : Nat} {xs : Nat → Int32} (X : Cx G cy s.heap.size (fun _ => 0) (fun _ => none) cL_law 8 ret RL p s m args meth c) (hX : va_X b L xs s s.heap) (hbl : b < s.heap.size) (hL : L ≤ 3072) (hret : ∀ A F cells slots lv, cells ≤ 600000 → slots ≤ 7302250 → Z G s.heap.size 8 (fun _ => 0) (fun _ => none) p l e room_1 s m args below meth c Q A F cells slots 1004 lv []) : Z G s.heap.size 8 (fun _ => 0) (fun _ => none) p l e room_1 s m args below meth c Q (fun _ => 0) (fun _ => none) 0 0 0 [(0, .ref b)] [] := by
  refine z_new X (ci := 4) (fs := [.null, .null, .null, .int 0, .int 0, .null, .int 0, .null, .null, .int 0, .int 0, .null, .int 0, .null, .int 0, .null]) 0 wa_X3 tyX3 tyX3_ok rfl rfl q_40 q_41 q_24 (by decide) (Nat.le_of_ble_eq_true rfl) (Nat.le_of_ble_eq_true rfl) dL_law_0 (fun a => ?_)
  refine z_wd (A' := eo (zad (fun _ => 0) 0 a) (fun _ => 0)) (F' := eo (zup (fun _ => none) 0 (.inr (4, [.null, .null, .null, .int 0, .int 0, .null, .int 0, .null, .null, .int 0, .int 0, .null, .int 0, .null, .int 0, .null]))) (fun _ => none)) ((congrArg (fun q => zad q 0 a) (eo_one 0)).trans (zad_eo_e 0)) ((congrArg (fun q => zup q 0 _) (eo_one none)).trans (zup_eo_e 0)) ?_
  refine z_dup X dL_law_3 rfl ?_
  refine z_callI X (n := 0) (As := []) (rest := [.ref a]) (a := a) (ct_e (b := fun _ => 0) (g := fun _ => none) (p_init l G cy s.heap.size (zad (fun _ => 0) 0 a))) q_42 q_43 q_24 q_44 rfl (by decide +kernel) ⟨Nat.le_of_ble_eq_true rfl, Nat.le_of_ble_eq_true rfl⟩ rfl rfl (Nat.le_of_ble_eq_true rfl) dL_law_4 ⟨Nat.le_of_ble_eq_true rfl, Nat.le_of_ble_eq_true rfl⟩ (fun v A1 F1 hp had => ?_)
  obtain ⟨a1, f1, ⟨rfl, rfl⟩, rfl, rfl⟩ := hp
  have e0 : a1 0 = a := by
    have h9 := had (2 * 0) (by rw [eo_e]; exact fun h => by cases h)
    rw [eo_e, eo_e] at h9
    exact h9
  refine z_st (st' := [.ref a]) rfl ?_
  refine z_astore_n X dL_law_7 rfl (by decide) rfl ?_
  refine z_new X (ci := 5) (fs := [.int 0, .null, .null, .null, .null, .int 0, .null, .null, .null, .null, .null, .null, .null, .null, .int 0, .null, .null, .int 0, .int 0, .null, .null, .int 0, .null, .null, .null, .null, .int 0, .int 0]) 1 wa_X4 tyX4 tyX4_ok rfl (eo_o (a := CF cy a1 c0n c0u c0w c0x c0r) (b := fun _ => none) 0) q_553 q_554 q_29 (by decide) (Nat.le_of_ble_eq_true rfl) (Nat.le_of_ble_eq_true rfl) dL_law_8 (fun a2 => ?_)
  refine z_wd (A' := eo a1 (zad (fun _ => 0) 0 a2)) (F' := eo (CF cy a1 c0n c0u c0w c0x c0r) (zup (fun _ => none) 0 (.inr (5, [.int 0, .null, .null, .null, .null, .int 0, .null, .null, .null, .null, .null, .null, .null, .null, .int 0, .null, .null, .int 0, .int 0, .null, .null, .int 0, .null, .null, .null, .null, .int 0, .int 0])))) (zad_eo_o 0) (zup_eo_o 0) ?_
  refine z_dup X dL_law_11 rfl ?_
  refine z_callI X (n := 0) (As := []) (rest := [.ref a2]) (a := a2) (ct_o (a := a1) (f := CF cy a1 c0n c0u c0w c0x c0r) (m_init l G cy s.heap.size (zad (fun _ => 0) 0 a2))) q_555 q_556 q_29 q_557 rfl (by decide +kernel) ⟨Nat.le_of_ble_eq_true rfl, Nat.le_of_ble_eq_true rfl⟩ rfl rfl (Nat.le_of_ble_eq_true rfl) dL_law_12 ⟨Nat.le_of_ble_eq_true rfl, Nat.le_of_ble_eq_true rfl⟩ (fun v A1 F1 hp had => ?_)
  obtain ⟨b1, g1, ⟨rfl, rfl⟩, rfl, rfl⟩ := hp
  have e1 : b1 0 = a2 := by
    have h9 := had (2 * 0 + 1) (by rw [eo_o]; exact fun h => by cases h)
    rw [eo_o, eo_o] at h9
    exact h9
  refine z_st (st' := [.ref a2]) rfl ?_
  refine z_astore_n X dL_law_15 rfl (by decide) rfl ?_
  refine z_iconst X (v := nI 0) dL_law_16 (by decide) ?_
  refine z_istore_n X dL_law_17 rfl (by decide) rfl ?_
  refine z_lv (lv' := lvI b a a2 0) [3, 2, 1, 0] rfl ?_
  exact law_loop X hX hbl hL hret 512 0 _ _ _ _ ⟨a1, b1, c0n, c0u, c0w, c0x, c0r, c0n, m0u, c0w, c0x, rfl, rfl, e0, e1, rel_0 a1⟩ (Nat.zero_le _) (by omega) (Nat.le_of_ble_eq_true rfl) (Nat.le_of_ble_eq_true rfl)
/-- YOUR PART: from the entry, for every script of at most 3072 ints, the law comes to its end with true -/
theorem whole_start {p : Program} {e : Env} {s : State} {m : MethodId} {below : List Frame} {meth : Method} {c : Code} (l : Launch) (hflags : l.flags = flags0) {b L : Nat} {xs : Nat → Int32} (hL : L ≤ 3072) (C0 : lw_At p s m meth c b L xs) : W p l e room_1 s m #[Value.ref b] below meth c s.heap [] 0 0 (lw_Z below #[Value.ref b] s) (entryFrame m ([Value.ref b] : List Value).toArray 8) := by
  obtain ⟨hx, hb, hr, hml, hown, hts, hX, hbl, hlocks, hgv⟩ := id C0
  obtain ⟨G, cy, hK⟩ := st_K hts hgv
  have X : Cx G cy s.heap.size (fun _ => 0) (fun _ => none) cL_law 8 ret RL p s m #[Value.ref b] meth c := ⟨hx, hb, hml, hown, st_all hts, hK, hlocks, hr, ⟨fun k x h => (by cases h), fun k j h => absurd rfl h⟩⟩
  refine W.base ?_
  have hl := lv_entry ([.ref b]) (n := 8) (Nat.le_of_ble_eq_true rfl)
  rw [lg_entry_eq]
  generalize (lg_sl ([.ref b]) ++ List.replicate (8 - (lg_sl ([.ref b])).length) Slot.unset).toArray = ls at hl ⊢
  have hl : lv_has ls 8 [(0, .ref b)] := hl
  refine law_main X hX hbl hL (fun A F cells slots lv hc hs => z_iconst X (v := 1) dL_law_1004 (by decide) (fun H locs d ls h1 h2 h3 h4 h5 => va_forget (s := s.setDrawn d) h4 (w_widen hc hs (lw_ret h1 hx hb hr hlocks dL_law_1005)))) s.heap [] s.drawn ls (Drawn.sameBut.refl _ _) ⟨fun k x h => (by cases h), fun k j h => absurd rfl h⟩ zF_rfl (fun q h => by cases h) hl
