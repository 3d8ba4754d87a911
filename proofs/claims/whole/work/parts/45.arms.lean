/-! THE LAW'S ARMS -/
section ARMS
variable {G : va_G} {cy : Nat → ClassId} {ad0 : Nat → Nat} {p : Program} {l : Launch} {e : Env} {s : State} {m : MethodId} {args : Array Value} {below : List Frame} {meth : Method} {c : Code} {Q : State → Prop} {ret : Option FieldType} {b L : Nat} {xs : Nat → Int32} {i a0 a1 : Nat} {A : Nat → Nat} {F : zW} {cells slots : Nat}
set_option maxHeartbeats 4000000 in
set_option maxRecDepth 100000 in
theorem arm_feed (X : Cx G cy s.heap.size ad0 (fun _ => none) cL_law 8 ret RL p s m args meth c) (hX : va_X b L xs s s.heap) (hbl : b < s.heap.size) (hL : L ≤ 3072) (hi : i + 6 ≤ L) (hW : RW cy a0 a1 A F) (hcs : cells + 4 ≤ 600000 ∧ slots + 26 ≤ 7302250) (kb : ∀ A F, RW cy a0 a1 A F → Z G s.heap.size 8 ad0 (fun _ => none) p l e room_1 s m args below meth c Q A F (cells + 4) (slots + 26) 998 (lvI b a0 a1 i) []) : Z G s.heap.size 8 ad0 (fun _ => none) p l e room_1 s m args below meth c Q A F cells slots 128 (lvI b a0 a1 i) [] := by
  refine z_aload_n X 1 dL_law_128 rfl rfl ?_
  refine z_lng X hX hbl hL 1 (by decide) (by decide) (by omega) 0 3 rfl rfl q_786 dL_law_129 dL_law_130 dL_law_131 dL_law_132 dL_law_133 dL_law_134 dL_law_135 dL_law_137 dL_law_138 dL_law_139 dL_law_140 dL_law_141 dL_law_142 dL_law_143 dL_law_144 dL_law_147 dL_law_148 ?_
  refine z_arg X hX hbl hL 3 (by decide) (by omega) 0 3 rfl rfl dL_law_149 dL_law_150 dL_law_151 dL_law_152 dL_law_153 ?_
  refine z_lng X hX hbl hL 4 (by decide) (by decide) (by omega) 0 3 rfl rfl q_786 dL_law_154 dL_law_155 dL_law_156 dL_law_157 dL_law_158 dL_law_159 dL_law_160 dL_law_162 dL_law_163 dL_law_164 dL_law_165 dL_law_166 dL_law_167 dL_law_168 dL_law_169 dL_law_172 dL_law_173 ?_
  obtain ⟨e0, fs0, ef0⟩ := rw_0 hW
  refine z_callV X (n := 3) (As := [.long (lwd (xs (i + 1)) (xs (i + (1 + 1)))), .int (xs (i + 3)), .long (lwd (xs (i + 4)) (xs (i + (4 + 1))))]) (rest := []) 0 e0 ef0 rfl (s_feed l G cy s.heap.size hW _ _ _) q_134 q_135 q_136 q_24 q_137 (by decide +kernel) ⟨Nat.le_of_ble_eq_true rfl, Nat.le_of_ble_eq_true rfl⟩ rfl rfl (Nat.le_of_ble_eq_true rfl) dL_law_174 ⟨(by show cells + 2 ≤ 600000; omega), (by show slots + 13 ≤ 7302250; omega)⟩ (fun v0 A0 F0 hp _ => ?_)
  obtain ⟨n, rfl, hA, ⟨fs, hF⟩, hM⟩ := hp
  refine z_st (st' := [.int n]) rfl ?_
  refine z_aload_n X 2 dL_law_177 rfl rfl ?_
  refine z_lng X hX hbl hL 1 (by decide) (by decide) (by omega) 0 3 rfl rfl q_786 dL_law_178 dL_law_179 dL_law_180 dL_law_181 dL_law_182 dL_law_183 dL_law_184 dL_law_186 dL_law_187 dL_law_188 dL_law_189 dL_law_190 dL_law_191 dL_law_192 dL_law_193 dL_law_196 dL_law_197 ?_
  refine z_arg X hX hbl hL 3 (by decide) (by omega) 0 3 rfl rfl dL_law_198 dL_law_199 dL_law_200 dL_law_201 dL_law_202 ?_
  refine z_lng X hX hbl hL 4 (by decide) (by decide) (by omega) 0 3 rfl rfl q_786 dL_law_203 dL_law_204 dL_law_205 dL_law_206 dL_law_207 dL_law_208 dL_law_209 dL_law_211 dL_law_212 dL_law_213 dL_law_214 dL_law_215 dL_law_216 dL_law_217 dL_law_218 dL_law_221 dL_law_222 ?_
  refine z_callV X (n := 3) (As := [.long (lwd (xs (i + 1)) (xs (i + (1 + 1)))), .int (xs (i + 3)), .long (lwd (xs (i + 4)) (xs (i + (4 + 1))))]) (rest := [.int n]) 1 hA hF rfl hM q_644 q_645 q_646 q_29 q_647 (by decide +kernel) ⟨Nat.le_of_ble_eq_true rfl, Nat.le_of_ble_eq_true rfl⟩ rfl rfl (Nat.le_of_ble_eq_true rfl) dL_law_223 ⟨(by show cells + 2 + 2 ≤ 600000; omega), (by show slots + 13 + 13 ≤ 7302250; omega)⟩ (fun v1 A1 F1 hp _ => ?_)
  obtain ⟨rfl, h2⟩ := hp
  refine z_st (st' := [.int n, .int n]) rfl ?_
  exact z_icmp_eq X (tgt := 998) dL_law_226 (by decide) (fun _ => kb _ _ h2) (fun h => absurd rfl h)
set_option maxHeartbeats 4000000 in
set_option maxRecDepth 100000 in
theorem arm_bale (X : Cx G cy s.heap.size ad0 (fun _ => none) cL_law 8 ret RL p s m args meth c) (hX : va_X b L xs s s.heap) (hbl : b < s.heap.size) (hL : L ≤ 3072) (hi : i + 6 ≤ L) (hW : RW cy a0 a1 A F) (hcs : cells + 4 ≤ 600000 ∧ slots + 26 ≤ 7302250) (kb : ∀ A F, RW cy a0 a1 A F → Z G s.heap.size 8 ad0 (fun _ => none) p l e room_1 s m args below meth c Q A F (cells + 4) (slots + 26) 998 (lvI b a0 a1 i) []) : Z G s.heap.size 8 ad0 (fun _ => none) p l e room_1 s m args below meth c Q A F cells slots 231 (lvI b a0 a1 i) [] := by
  refine z_aload_n X 1 dL_law_231 rfl rfl ?_
  refine z_lng X hX hbl hL 1 (by decide) (by decide) (by omega) 0 3 rfl rfl q_786 dL_law_232 dL_law_233 dL_law_234 dL_law_235 dL_law_236 dL_law_237 dL_law_238 dL_law_240 dL_law_241 dL_law_242 dL_law_243 dL_law_244 dL_law_245 dL_law_246 dL_law_247 dL_law_250 dL_law_251 ?_
  obtain ⟨e0, fs0, ef0⟩ := rw_0 hW
  refine z_callV X (n := 1) (As := [.long (lwd (xs (i + 1)) (xs (i + (1 + 1))))]) (rest := []) 0 e0 ef0 rfl (s_bale l G cy s.heap.size hW _) q_146 q_147 q_148 q_24 q_149 (by decide +kernel) ⟨Nat.le_of_ble_eq_true rfl, Nat.le_of_ble_eq_true rfl⟩ rfl rfl (Nat.le_of_ble_eq_true rfl) dL_law_252 ⟨(by show cells + 2 ≤ 600000; omega), (by show slots + 13 ≤ 7302250; omega)⟩ (fun v0 A0 F0 hp _ => ?_)
  obtain ⟨n, rfl, hA, ⟨fs, hF⟩, hM⟩ := hp
  refine z_st (st' := [.int n]) rfl ?_
  refine z_aload_n X 2 dL_law_255 rfl rfl ?_
  refine z_lng X hX hbl hL 1 (by decide) (by decide) (by omega) 0 3 rfl rfl q_786 dL_law_256 dL_law_257 dL_law_258 dL_law_259 dL_law_260 dL_law_261 dL_law_262 dL_law_264 dL_law_265 dL_law_266 dL_law_267 dL_law_268 dL_law_269 dL_law_270 dL_law_271 dL_law_274 dL_law_275 ?_
  refine z_callV X (n := 1) (As := [.long (lwd (xs (i + 1)) (xs (i + (1 + 1))))]) (rest := [.int n]) 1 hA hF rfl hM q_656 q_657 q_658 q_29 q_659 (by decide +kernel) ⟨Nat.le_of_ble_eq_true rfl, Nat.le_of_ble_eq_true rfl⟩ rfl rfl (Nat.le_of_ble_eq_true rfl) dL_law_276 ⟨(by show cells + 2 + 2 ≤ 600000; omega), (by show slots + 13 + 13 ≤ 7302250; omega)⟩ (fun v1 A1 F1 hp _ => ?_)
  obtain ⟨rfl, h2⟩ := hp
  refine z_st (st' := [.int n, .int n]) rfl ?_
  exact z_icmp_eq X (tgt := 998) dL_law_279 (by decide) (fun _ => kb _ _ h2) (fun h => absurd rfl h)
set_option maxHeartbeats 4000000 in
set_option maxRecDepth 100000 in
theorem arm_in (X : Cx G cy s.heap.size ad0 (fun _ => none) cL_law 8 ret RL p s m args meth c) (hX : va_X b L xs s s.heap) (hbl : b < s.heap.size) (hL : L ≤ 3072) (hi : i + 6 ≤ L) (hW : RW cy a0 a1 A F) (hcs : cells + 4 ≤ 600000 ∧ slots + 26 ≤ 7302250) (kb : ∀ A F, RW cy a0 a1 A F → Z G s.heap.size 8 ad0 (fun _ => none) p l e room_1 s m args below meth c Q A F (cells + 4) (slots + 26) 998 (lvI b a0 a1 i) []) : Z G s.heap.size 8 ad0 (fun _ => none) p l e room_1 s m args below meth c Q A F cells slots 284 (lvI b a0 a1 i) [] := by
  refine z_aload_n X 1 dL_law_284 rfl rfl ?_
  refine z_arg X hX hbl hL 1 (by decide) (by omega) 0 3 rfl rfl dL_law_285 dL_law_286 dL_law_287 dL_law_288 dL_law_289 ?_
  refine z_arg X hX hbl hL 2 (by decide) (by omega) 0 3 rfl rfl dL_law_290 dL_law_291 dL_law_292 dL_law_293 dL_law_294 ?_
  obtain ⟨e0, fs0, ef0⟩ := rw_0 hW
  refine z_callV X (n := 2) (As := [.int (xs (i + 1)), .int (xs (i + 2))]) (rest := []) 0 e0 ef0 rfl (s_in l G cy s.heap.size hW _ _) q_190 q_191 q_192 q_24 q_193 (by decide +kernel) ⟨Nat.le_of_ble_eq_true rfl, Nat.le_of_ble_eq_true rfl⟩ rfl rfl (Nat.le_of_ble_eq_true rfl) dL_law_295 ⟨(by show cells + 2 ≤ 600000; omega), (by show slots + 13 ≤ 7302250; omega)⟩ (fun v0 A0 F0 hp _ => ?_)
  obtain ⟨n, rfl, hA, ⟨fs, hF⟩, hM⟩ := hp
  refine z_st (st' := [.long n]) rfl ?_
  refine z_aload_n X 2 dL_law_298 rfl rfl ?_
  refine z_arg X hX hbl hL 1 (by decide) (by omega) 0 3 rfl rfl dL_law_299 dL_law_300 dL_law_301 dL_law_302 dL_law_303 ?_
  refine z_arg X hX hbl hL 2 (by decide) (by omega) 0 3 rfl rfl dL_law_304 dL_law_305 dL_law_306 dL_law_307 dL_law_308 ?_
  refine z_callV X (n := 2) (As := [.int (xs (i + 1)), .int (xs (i + 2))]) (rest := [.long n]) 1 hA hF rfl hM q_664 q_665 q_666 q_29 q_667 (by decide +kernel) ⟨Nat.le_of_ble_eq_true rfl, Nat.le_of_ble_eq_true rfl⟩ rfl rfl (Nat.le_of_ble_eq_true rfl) dL_law_309 ⟨(by show cells + 2 + 2 ≤ 600000; omega), (by show slots + 13 + 13 ≤ 7302250; omega)⟩ (fun v1 A1 F1 hp _ => ?_)
  obtain ⟨rfl, h2⟩ := hp
  refine z_st (st' := [.long n, .long n]) rfl ?_
  exact z_lcmp_eq X (tgt := 998) dL_law_312 dL_law_313 (by decide) (fun _ => kb _ _ h2) (fun h => absurd rfl h)
set_option maxHeartbeats 4000000 in
set_option maxRecDepth 100000 in
theorem arm_count (X : Cx G cy s.heap.size ad0 (fun _ => none) cL_law 8 ret RL p s m args meth c) (hX : va_X b L xs s s.heap) (hbl : b < s.heap.size) (hL : L ≤ 3072) (hi : i + 6 ≤ L) (hW : RW cy a0 a1 A F) (hcs : cells + 4 ≤ 600000 ∧ slots + 26 ≤ 7302250) (kb : ∀ A F, RW cy a0 a1 A F → Z G s.heap.size 8 ad0 (fun _ => none) p l e room_1 s m args below meth c Q A F (cells + 4) (slots + 26) 998 (lvI b a0 a1 i) []) : Z G s.heap.size 8 ad0 (fun _ => none) p l e room_1 s m args below meth c Q A F cells slots 318 (lvI b a0 a1 i) [] := by
  refine z_aload_n X 1 dL_law_318 rfl rfl ?_
  refine z_arg X hX hbl hL 1 (by decide) (by omega) 0 3 rfl rfl dL_law_319 dL_law_320 dL_law_321 dL_law_322 dL_law_323 ?_
  obtain ⟨e0, fs0, ef0⟩ := rw_0 hW
  refine z_callV X (n := 1) (As := [.int (xs (i + 1))]) (rest := []) 0 e0 ef0 rfl (s_count l G cy s.heap.size hW _) q_202 q_203 q_204 q_24 q_205 (by decide +kernel) ⟨Nat.le_of_ble_eq_true rfl, Nat.le_of_ble_eq_true rfl⟩ rfl rfl (Nat.le_of_ble_eq_true rfl) dL_law_324 ⟨(by show cells + 2 ≤ 600000; omega), (by show slots + 13 ≤ 7302250; omega)⟩ (fun v0 A0 F0 hp _ => ?_)
  obtain ⟨n, rfl, hA, ⟨fs, hF⟩, hM⟩ := hp
  refine z_st (st' := [.long n]) rfl ?_
  refine z_aload_n X 2 dL_law_327 rfl rfl ?_
  refine z_arg X hX hbl hL 1 (by decide) (by omega) 0 3 rfl rfl dL_law_328 dL_law_329 dL_law_330 dL_law_331 dL_law_332 ?_
  refine z_callV X (n := 1) (As := [.int (xs (i + 1))]) (rest := [.long n]) 1 hA hF rfl hM q_678 q_679 q_680 q_29 q_681 (by decide +kernel) ⟨Nat.le_of_ble_eq_true rfl, Nat.le_of_ble_eq_true rfl⟩ rfl rfl (Nat.le_of_ble_eq_true rfl) dL_law_333 ⟨(by show cells + 2 + 2 ≤ 600000; omega), (by show slots + 13 + 13 ≤ 7302250; omega)⟩ (fun v1 A1 F1 hp _ => ?_)
  obtain ⟨rfl, h2⟩ := hp
  refine z_st (st' := [.long n, .long n]) rfl ?_
  exact z_lcmp_eq X (tgt := 998) dL_law_336 dL_law_337 (by decide) (fun _ => kb _ _ h2) (fun h => absurd rfl h)
set_option maxHeartbeats 4000000 in
set_option maxRecDepth 100000 in
theorem arm_wires (X : Cx G cy s.heap.size ad0 (fun _ => none) cL_law 8 ret RL p s m args meth c) (hX : va_X b L xs s s.heap) (hbl : b < s.heap.size) (hL : L ≤ 3072) (hi : i + 6 ≤ L) (hW : RW cy a0 a1 A F) (hcs : cells + 4 ≤ 600000 ∧ slots + 26 ≤ 7302250) (kb : ∀ A F, RW cy a0 a1 A F → Z G s.heap.size 8 ad0 (fun _ => none) p l e room_1 s m args below meth c Q A F (cells + 4) (slots + 26) 998 (lvI b a0 a1 i) []) : Z G s.heap.size 8 ad0 (fun _ => none) p l e room_1 s m args below meth c Q A F cells slots 342 (lvI b a0 a1 i) [] := by
  refine z_aload_n X 1 dL_law_342 rfl rfl ?_
  refine z_arg X hX hbl hL 1 (by decide) (by omega) 0 3 rfl rfl dL_law_343 dL_law_344 dL_law_345 dL_law_346 dL_law_347 ?_
  obtain ⟨e0, fs0, ef0⟩ := rw_0 hW
  refine z_callV X (n := 1) (As := [.int (xs (i + 1))]) (rest := []) 0 e0 ef0 rfl (s_wires l G cy s.heap.size hW _) q_206 q_207 q_208 q_24 q_209 (by decide +kernel) ⟨Nat.le_of_ble_eq_true rfl, Nat.le_of_ble_eq_true rfl⟩ rfl rfl (Nat.le_of_ble_eq_true rfl) dL_law_348 ⟨(by show cells + 2 ≤ 600000; omega), (by show slots + 13 ≤ 7302250; omega)⟩ (fun v0 A0 F0 hp _ => ?_)
  obtain ⟨n, rfl, hA, ⟨fs, hF⟩, hM⟩ := hp
  refine z_st (st' := [.int n]) rfl ?_
  refine z_aload_n X 2 dL_law_351 rfl rfl ?_
  refine z_arg X hX hbl hL 1 (by decide) (by omega) 0 3 rfl rfl dL_law_352 dL_law_353 dL_law_354 dL_law_355 dL_law_356 ?_
  refine z_callV X (n := 1) (As := [.int (xs (i + 1))]) (rest := [.int n]) 1 hA hF rfl hM q_682 q_683 q_684 q_29 q_685 (by decide +kernel) ⟨Nat.le_of_ble_eq_true rfl, Nat.le_of_ble_eq_true rfl⟩ rfl rfl (Nat.le_of_ble_eq_true rfl) dL_law_357 ⟨(by show cells + 2 + 2 ≤ 600000; omega), (by show slots + 13 + 13 ≤ 7302250; omega)⟩ (fun v1 A1 F1 hp _ => ?_)
  obtain ⟨rfl, h2⟩ := hp
  refine z_st (st' := [.int n, .int n]) rfl ?_
  exact z_icmp_eq X (tgt := 998) dL_law_360 (by decide) (fun _ => kb _ _ h2) (fun h => absurd rfl h)
set_option maxHeartbeats 4000000 in
set_option maxRecDepth 100000 in
theorem arm_size (X : Cx G cy s.heap.size ad0 (fun _ => none) cL_law 8 ret RL p s m args meth c) (hX : va_X b L xs s s.heap) (hbl : b < s.heap.size) (hL : L ≤ 3072) (hi : i + 6 ≤ L) (hW : RW cy a0 a1 A F) (hcs : cells + 4 ≤ 600000 ∧ slots + 26 ≤ 7302250) (kb : ∀ A F, RW cy a0 a1 A F → Z G s.heap.size 8 ad0 (fun _ => none) p l e room_1 s m args below meth c Q A F (cells + 4) (slots + 26) 998 (lvI b a0 a1 i) []) : Z G s.heap.size 8 ad0 (fun _ => none) p l e room_1 s m args below meth c Q A F cells slots 365 (lvI b a0 a1 i) [] := by
  refine z_aload_n X 1 dL_law_365 rfl rfl ?_
  refine z_arg X hX hbl hL 1 (by decide) (by omega) 0 3 rfl rfl dL_law_366 dL_law_367 dL_law_368 dL_law_369 dL_law_370 ?_
  refine z_dbl X hX hbl hL 2 (by decide) (by omega) 0 3 rfl rfl q_787 dL_law_371 dL_law_372 dL_law_373 dL_law_374 dL_law_375 dL_law_376 dL_law_377 dL_law_380 (fun r371 hr371 => ?_)
  obtain ⟨e0, fs0, ef0⟩ := rw_0 hW
  refine z_callV X (n := 2) (As := [.int (xs (i + 1)), .double r371]) (rest := []) 0 e0 ef0 rfl (s_size l G cy s.heap.size hW _ _) q_216 q_217 q_218 q_24 q_219 (by decide +kernel) ⟨Nat.le_of_ble_eq_true rfl, Nat.le_of_ble_eq_true rfl⟩ rfl rfl (Nat.le_of_ble_eq_true rfl) dL_law_381 ⟨(by show cells + 2 ≤ 600000; omega), (by show slots + 13 ≤ 7302250; omega)⟩ (fun v0 A0 F0 hp _ => ?_)
  obtain ⟨n, rfl, hM⟩ := hp
  refine z_st (st' := [.double n]) rfl ?_
  refine z_dstore X dL_law_384 (by decide) rfl ?_
  refine z_aload_n X 3 dL_law_386 rfl rfl ?_
  refine z_arg X hX hbl hL 1 (by decide) (by omega) 1 4 rfl rfl dL_law_387 dL_law_388 dL_law_389 dL_law_390 dL_law_391 ?_
  refine z_dbl X hX hbl hL 2 (by decide) (by omega) 1 4 rfl rfl q_787 dL_law_392 dL_law_393 dL_law_394 dL_law_395 dL_law_396 dL_law_397 dL_law_398 dL_law_401 (fun r392 hr392 => ?_)
  obtain ⟨hA, ⟨fs, hF⟩, hM⟩ := hM _ ((alike_dc hr371).trans (alike_dc hr392).symm)
  refine z_callV X (n := 2) (As := [.int (xs (i + 1)), .double r392]) (rest := []) 1 hA hF rfl hM q_692 q_693 q_694 q_29 q_695 (by decide +kernel) ⟨Nat.le_of_ble_eq_true rfl, Nat.le_of_ble_eq_true rfl⟩ rfl rfl (Nat.le_of_ble_eq_true rfl) dL_law_402 ⟨(by show cells + 2 + 2 ≤ 600000; omega), (by show slots + 13 + 13 ≤ 7302250; omega)⟩ (fun v1 A1 F1 hp _ => ?_)
  obtain ⟨⟨n2, rfl, hd⟩, h2⟩ := hp
  refine z_st (st' := [.double n2]) rfl ?_
  refine z_dstore X dL_law_405 (by decide) rfl ?_
  refine z_dload X 1 dL_law_407 rfl ?_
  refine z_dload X 0 dL_law_409 rfl ?_
  refine z_dcmp_eq X (tgt := 433) dL_law_411 dL_law_412 (by decide) (fun _ => z_goto X (tgt := 998) dL_law_433 (by decide) (z_lv (lv' := lvI b a0 a1 i) [2, 3, 4, 5] rfl (kb _ _ h2))) (fun hne => ?_)
  rcases eqd_end hd with hq | ⟨hq1, hq2⟩
  · exact absurd (dEq_eqd hq) (by rw [hne]; exact Bool.false_ne_true)
  refine z_dload X 1 dL_law_415 rfl (z_dload X 1 dL_law_417 rfl ?_)
  refine z_dcmp_eq X (tgt := 431) dL_law_419 dL_law_420 (by decide) (fun q => absurd q (by rw [dEq_nan hq1]; exact Bool.false_ne_true)) (fun _ => ?_)
  refine z_dload X 0 dL_law_423 rfl (z_dload X 0 dL_law_425 rfl ?_)
  exact z_dcmp_ne X (tgt := 433) dL_law_427 dL_law_428 (by decide) (fun _ => z_goto X (tgt := 998) dL_law_433 (by decide) (z_lv (lv' := lvI b a0 a1 i) [2, 3, 4, 5] rfl (kb _ _ h2))) (fun q => absurd q (by rw [dEq_nan hq2]; exact Bool.false_ne_true))
set_option maxHeartbeats 4000000 in
set_option maxRecDepth 100000 in
theorem arm_row (X : Cx G cy s.heap.size ad0 (fun _ => none) cL_law 8 ret RL p s m args meth c) (hX : va_X b L xs s s.heap) (hbl : b < s.heap.size) (hL : L ≤ 3072) (hi : i + 6 ≤ L) (hW : RW cy a0 a1 A F) (hcs : cells + 4 ≤ 600000 ∧ slots + 26 ≤ 7302250) (kb : ∀ A F, RW cy a0 a1 A F → Z G s.heap.size 8 ad0 (fun _ => none) p l e room_1 s m args below meth c Q A F (cells + 4) (slots + 26) 998 (lvI b a0 a1 i) []) : Z G s.heap.size 8 ad0 (fun _ => none) p l e room_1 s m args below meth c Q A F cells slots 436 (lvI b a0 a1 i) [] := by
  refine z_aload_n X 1 dL_law_436 rfl rfl ?_
  refine z_dbl X hX hbl hL 1 (by decide) (by omega) 0 3 rfl rfl q_787 dL_law_437 dL_law_438 dL_law_439 dL_law_440 dL_law_441 dL_law_442 dL_law_443 dL_law_446 (fun r437 hr437 => ?_)
  refine z_dbl X hX hbl hL 2 (by decide) (by omega) 0 3 rfl rfl q_787 dL_law_447 dL_law_448 dL_law_449 dL_law_450 dL_law_451 dL_law_452 dL_law_453 dL_law_456 (fun r447 hr447 => ?_)
  obtain ⟨e0, fs0, ef0⟩ := rw_0 hW
  refine z_callV X (n := 2) (As := [.double r437, .double r447]) (rest := []) 0 e0 ef0 rfl (s_row l G cy s.heap.size hW _ _) q_227 q_228 q_229 q_24 q_230 (by decide +kernel) ⟨Nat.le_of_ble_eq_true rfl, Nat.le_of_ble_eq_true rfl⟩ rfl rfl (Nat.le_of_ble_eq_true rfl) dL_law_457 ⟨(by show cells + 2 ≤ 600000; omega), (by show slots + 13 ≤ 7302250; omega)⟩ (fun v0 A0 F0 hp _ => ?_)
  obtain ⟨n, rfl, hM⟩ := hp
  refine z_st (st' := [.int n]) rfl ?_
  refine z_aload_n X 2 dL_law_460 rfl rfl ?_
  refine z_dbl X hX hbl hL 1 (by decide) (by omega) 0 3 rfl rfl q_787 dL_law_461 dL_law_462 dL_law_463 dL_law_464 dL_law_465 dL_law_466 dL_law_467 dL_law_470 (fun r461 hr461 => ?_)
  refine z_dbl X hX hbl hL 2 (by decide) (by omega) 0 3 rfl rfl q_787 dL_law_471 dL_law_472 dL_law_473 dL_law_474 dL_law_475 dL_law_476 dL_law_477 dL_law_480 (fun r471 hr471 => ?_)
  obtain ⟨hA, ⟨fs, hF⟩, hM⟩ := hM _ _ ((alike_dc hr437).trans (alike_dc hr461).symm) ((alike_dc hr447).trans (alike_dc hr471).symm)
  refine z_callV X (n := 2) (As := [.double r461, .double r471]) (rest := [.int n]) 1 hA hF rfl hM q_707 q_708 q_709 q_29 q_710 (by decide +kernel) ⟨Nat.le_of_ble_eq_true rfl, Nat.le_of_ble_eq_true rfl⟩ rfl rfl (Nat.le_of_ble_eq_true rfl) dL_law_481 ⟨(by show cells + 2 + 2 ≤ 600000; omega), (by show slots + 13 + 13 ≤ 7302250; omega)⟩ (fun v1 A1 F1 hp _ => ?_)
  obtain ⟨rfl, h2⟩ := hp
  refine z_st (st' := [.int n, .int n]) rfl ?_
  exact z_icmp_eq X (tgt := 998) dL_law_484 (by decide) (fun _ => kb _ _ h2) (fun h => absurd rfl h)
set_option maxHeartbeats 4000000 in
set_option maxRecDepth 100000 in
theorem arm_warm (X : Cx G cy s.heap.size ad0 (fun _ => none) cL_law 8 ret RL p s m args meth c) (hX : va_X b L xs s s.heap) (hbl : b < s.heap.size) (hL : L ≤ 3072) (hi : i + 6 ≤ L) (hW : RW cy a0 a1 A F) (hcs : cells + 4 ≤ 600000 ∧ slots + 26 ≤ 7302250) (kb : ∀ A F, RW cy a0 a1 A F → Z G s.heap.size 8 ad0 (fun _ => none) p l e room_1 s m args below meth c Q A F (cells + 4) (slots + 26) 998 (lvI b a0 a1 i) []) : Z G s.heap.size 8 ad0 (fun _ => none) p l e room_1 s m args below meth c Q A F cells slots 489 (lvI b a0 a1 i) [] := by
  refine z_aload_n X 1 dL_law_489 rfl rfl ?_
  refine z_arg X hX hbl hL 1 (by decide) (by omega) 0 3 rfl rfl dL_law_490 dL_law_491 dL_law_492 dL_law_493 dL_law_494 ?_
  refine z_arg X hX hbl hL 2 (by decide) (by omega) 0 3 rfl rfl dL_law_495 dL_law_496 dL_law_497 dL_law_498 dL_law_499 ?_
  refine z_dbl X hX hbl hL 3 (by decide) (by omega) 0 3 rfl rfl q_787 dL_law_500 dL_law_501 dL_law_502 dL_law_503 dL_law_504 dL_law_505 dL_law_506 dL_law_509 (fun r500 hr500 => ?_)
  obtain ⟨e0, fs0, ef0⟩ := rw_0 hW
  refine z_callV X (n := 3) (As := [.int (xs (i + 1)), .int (xs (i + 2)), .double r500]) (rest := []) 0 e0 ef0 rfl (s_warm l G cy s.heap.size hW _ _ _) q_234 q_235 q_236 q_24 q_237 (by decide +kernel) ⟨Nat.le_of_ble_eq_true rfl, Nat.le_of_ble_eq_true rfl⟩ rfl rfl (Nat.le_of_ble_eq_true rfl) dL_law_510 ⟨(by show cells + 2 ≤ 600000; omega), (by show slots + 13 ≤ 7302250; omega)⟩ (fun v0 A0 F0 hp _ => ?_)
  obtain ⟨n, rfl, hM⟩ := hp
  refine z_st (st' := [.double n]) rfl ?_
  refine z_dstore X dL_law_513 (by decide) rfl ?_
  refine z_aload_n X 3 dL_law_515 rfl rfl ?_
  refine z_arg X hX hbl hL 1 (by decide) (by omega) 1 4 rfl rfl dL_law_516 dL_law_517 dL_law_518 dL_law_519 dL_law_520 ?_
  refine z_arg X hX hbl hL 2 (by decide) (by omega) 1 4 rfl rfl dL_law_521 dL_law_522 dL_law_523 dL_law_524 dL_law_525 ?_
  refine z_dbl X hX hbl hL 3 (by decide) (by omega) 1 4 rfl rfl q_787 dL_law_526 dL_law_527 dL_law_528 dL_law_529 dL_law_530 dL_law_531 dL_law_532 dL_law_535 (fun r526 hr526 => ?_)
  obtain ⟨hA, ⟨fs, hF⟩, hM⟩ := hM _ ((alike_dc hr500).trans (alike_dc hr526).symm)
  refine z_callV X (n := 3) (As := [.int (xs (i + 1)), .int (xs (i + 2)), .double r526]) (rest := []) 1 hA hF rfl hM q_714 q_715 q_716 q_29 q_717 (by decide +kernel) ⟨Nat.le_of_ble_eq_true rfl, Nat.le_of_ble_eq_true rfl⟩ rfl rfl (Nat.le_of_ble_eq_true rfl) dL_law_536 ⟨(by show cells + 2 + 2 ≤ 600000; omega), (by show slots + 13 + 13 ≤ 7302250; omega)⟩ (fun v1 A1 F1 hp _ => ?_)
  obtain ⟨⟨n2, rfl, hd⟩, h2⟩ := hp
  refine z_st (st' := [.double n2]) rfl ?_
  refine z_dstore X dL_law_539 (by decide) rfl ?_
  refine z_dload X 1 dL_law_541 rfl ?_
  refine z_dload X 0 dL_law_543 rfl ?_
  refine z_dcmp_eq X (tgt := 567) dL_law_545 dL_law_546 (by decide) (fun _ => z_goto X (tgt := 998) dL_law_567 (by decide) (z_lv (lv' := lvI b a0 a1 i) [2, 3, 4, 5] rfl (kb _ _ h2))) (fun hne => ?_)
  rcases eqd_end hd with hq | ⟨hq1, hq2⟩
  · exact absurd (dEq_eqd hq) (by rw [hne]; exact Bool.false_ne_true)
  refine z_dload X 1 dL_law_549 rfl (z_dload X 1 dL_law_551 rfl ?_)
  refine z_dcmp_eq X (tgt := 565) dL_law_553 dL_law_554 (by decide) (fun q => absurd q (by rw [dEq_nan hq1]; exact Bool.false_ne_true)) (fun _ => ?_)
  refine z_dload X 0 dL_law_557 rfl (z_dload X 0 dL_law_559 rfl ?_)
  exact z_dcmp_ne X (tgt := 567) dL_law_561 dL_law_562 (by decide) (fun _ => z_goto X (tgt := 998) dL_law_567 (by decide) (z_lv (lv' := lvI b a0 a1 i) [2, 3, 4, 5] rfl (kb _ _ h2))) (fun q => absurd q (by rw [dEq_nan hq2]; exact Bool.false_ne_true))
set_option maxHeartbeats 4000000 in
set_option maxRecDepth 100000 in
theorem arm_hold (X : Cx G cy s.heap.size ad0 (fun _ => none) cL_law 8 ret RL p s m args meth c) (hX : va_X b L xs s s.heap) (hbl : b < s.heap.size) (hL : L ≤ 3072) (hi : i + 6 ≤ L) (hW : RW cy a0 a1 A F) (hcs : cells + 4 ≤ 600000 ∧ slots + 26 ≤ 7302250) (kb : ∀ A F, RW cy a0 a1 A F → Z G s.heap.size 8 ad0 (fun _ => none) p l e room_1 s m args below meth c Q A F (cells + 4) (slots + 26) 998 (lvI b a0 a1 i) []) : Z G s.heap.size 8 ad0 (fun _ => none) p l e room_1 s m args below meth c Q A F cells slots 570 (lvI b a0 a1 i) [] := by
  refine z_aload_n X 1 dL_law_570 rfl rfl ?_
  refine z_arg X hX hbl hL 1 (by decide) (by omega) 0 3 rfl rfl dL_law_571 dL_law_572 dL_law_573 dL_law_574 dL_law_575 ?_
  obtain ⟨e0, fs0, ef0⟩ := rw_0 hW
  refine z_callV X (n := 1) (As := [.int (xs (i + 1))]) (rest := []) 0 e0 ef0 rfl (s_hold l G cy s.heap.size hW _) q_261 q_262 q_263 q_24 q_264 (by decide +kernel) ⟨Nat.le_of_ble_eq_true rfl, Nat.le_of_ble_eq_true rfl⟩ rfl rfl (Nat.le_of_ble_eq_true rfl) dL_law_576 ⟨(by show cells + 2 ≤ 600000; omega), (by show slots + 13 ≤ 7302250; omega)⟩ (fun v0 A0 F0 hp _ => ?_)
  obtain ⟨n, rfl, hA, ⟨fs, hF⟩, hM⟩ := hp
  refine z_st (st' := [.int n]) rfl ?_
  refine z_aload_n X 2 dL_law_579 rfl rfl ?_
  refine z_arg X hX hbl hL 1 (by decide) (by omega) 0 3 rfl rfl dL_law_580 dL_law_581 dL_law_582 dL_law_583 dL_law_584 ?_
  refine z_callV X (n := 1) (As := [.int (xs (i + 1))]) (rest := [.int n]) 1 hA hF rfl hM q_721 q_722 q_723 q_29 q_724 (by decide +kernel) ⟨Nat.le_of_ble_eq_true rfl, Nat.le_of_ble_eq_true rfl⟩ rfl rfl (Nat.le_of_ble_eq_true rfl) dL_law_585 ⟨(by show cells + 2 + 2 ≤ 600000; omega), (by show slots + 13 + 13 ≤ 7302250; omega)⟩ (fun v1 A1 F1 hp _ => ?_)
  obtain ⟨rfl, h2⟩ := hp
  refine z_st (st' := [.int n, .int n]) rfl ?_
  exact z_icmp_eq X (tgt := 998) dL_law_588 (by decide) (fun _ => kb _ _ h2) (fun h => absurd rfl h)
set_option maxHeartbeats 4000000 in
set_option maxRecDepth 100000 in
theorem arm_alarm (X : Cx G cy s.heap.size ad0 (fun _ => none) cL_law 8 ret RL p s m args meth c) (hX : va_X b L xs s s.heap) (hbl : b < s.heap.size) (hL : L ≤ 3072) (hi : i + 6 ≤ L) (hW : RW cy a0 a1 A F) (hcs : cells + 4 ≤ 600000 ∧ slots + 26 ≤ 7302250) (kb : ∀ A F, RW cy a0 a1 A F → Z G s.heap.size 8 ad0 (fun _ => none) p l e room_1 s m args below meth c Q A F (cells + 4) (slots + 26) 998 (lvI b a0 a1 i) []) : Z G s.heap.size 8 ad0 (fun _ => none) p l e room_1 s m args below meth c Q A F cells slots 593 (lvI b a0 a1 i) [] := by
  refine z_aload_n X 1 dL_law_593 rfl rfl ?_
  refine z_arg X hX hbl hL 1 (by decide) (by omega) 0 3 rfl rfl dL_law_594 dL_law_595 dL_law_596 dL_law_597 dL_law_598 ?_
  obtain ⟨e0, fs0, ef0⟩ := rw_0 hW
  refine z_callV X (n := 1) (As := [.int (xs (i + 1))]) (rest := []) 0 e0 ef0 rfl (s_alarm l G cy s.heap.size hW _) q_266 q_267 q_268 q_24 q_269 (by decide +kernel) ⟨Nat.le_of_ble_eq_true rfl, Nat.le_of_ble_eq_true rfl⟩ rfl rfl (Nat.le_of_ble_eq_true rfl) dL_law_599 ⟨(by show cells + 2 ≤ 600000; omega), (by show slots + 13 ≤ 7302250; omega)⟩ (fun v0 A0 F0 hp _ => ?_)
  obtain ⟨n, rfl, hA, ⟨fs, hF⟩, hM⟩ := hp
  refine z_st (st' := [.int n]) rfl ?_
  refine z_aload_n X 2 dL_law_602 rfl rfl ?_
  refine z_arg X hX hbl hL 1 (by decide) (by omega) 0 3 rfl rfl dL_law_603 dL_law_604 dL_law_605 dL_law_606 dL_law_607 ?_
  refine z_callV X (n := 1) (As := [.int (xs (i + 1))]) (rest := [.int n]) 1 hA hF rfl hM q_726 q_727 q_728 q_29 q_729 (by decide +kernel) ⟨Nat.le_of_ble_eq_true rfl, Nat.le_of_ble_eq_true rfl⟩ rfl rfl (Nat.le_of_ble_eq_true rfl) dL_law_608 ⟨(by show cells + 2 + 2 ≤ 600000; omega), (by show slots + 13 + 13 ≤ 7302250; omega)⟩ (fun v1 A1 F1 hp _ => ?_)
  obtain ⟨rfl, h2⟩ := hp
  refine z_st (st' := [.int n, .int n]) rfl ?_
  exact z_icmp_eq X (tgt := 998) dL_law_611 (by decide) (fun _ => kb _ _ h2) (fun h => absurd rfl h)
set_option maxHeartbeats 4000000 in
set_option maxRecDepth 100000 in
theorem arm_stack (X : Cx G cy s.heap.size ad0 (fun _ => none) cL_law 8 ret RL p s m args meth c) (hX : va_X b L xs s s.heap) (hbl : b < s.heap.size) (hL : L ≤ 3072) (hi : i + 6 ≤ L) (hW : RW cy a0 a1 A F) (hcs : cells + 4 ≤ 600000 ∧ slots + 26 ≤ 7302250) (kb : ∀ A F, RW cy a0 a1 A F → Z G s.heap.size 8 ad0 (fun _ => none) p l e room_1 s m args below meth c Q A F (cells + 4) (slots + 26) 998 (lvI b a0 a1 i) []) : Z G s.heap.size 8 ad0 (fun _ => none) p l e room_1 s m args below meth c Q A F cells slots 616 (lvI b a0 a1 i) [] := by
  refine z_aload_n X 1 dL_law_616 rfl rfl ?_
  refine z_arg X hX hbl hL 1 (by decide) (by omega) 0 3 rfl rfl dL_law_617 dL_law_618 dL_law_619 dL_law_620 dL_law_621 ?_
  refine z_arg X hX hbl hL 2 (by decide) (by omega) 0 3 rfl rfl dL_law_622 dL_law_623 dL_law_624 dL_law_625 dL_law_626 ?_
  obtain ⟨e0, fs0, ef0⟩ := rw_0 hW
  refine z_callV X (n := 2) (As := [.int (xs (i + 1)), .int (xs (i + 2))]) (rest := []) 0 e0 ef0 rfl (s_stack l G cy s.heap.size hW _ _) q_273 q_274 q_275 q_24 q_276 (by decide +kernel) ⟨Nat.le_of_ble_eq_true rfl, Nat.le_of_ble_eq_true rfl⟩ rfl rfl (Nat.le_of_ble_eq_true rfl) dL_law_627 ⟨(by show cells + 2 ≤ 600000; omega), (by show slots + 13 ≤ 7302250; omega)⟩ (fun v0 A0 F0 hp _ => ?_)
  obtain ⟨n, rfl, hA, ⟨fs, hF⟩, hM⟩ := hp
  refine z_st (st' := [.int n]) rfl ?_
  refine z_aload_n X 2 dL_law_630 rfl rfl ?_
  refine z_arg X hX hbl hL 1 (by decide) (by omega) 0 3 rfl rfl dL_law_631 dL_law_632 dL_law_633 dL_law_634 dL_law_635 ?_
  refine z_arg X hX hbl hL 2 (by decide) (by omega) 0 3 rfl rfl dL_law_636 dL_law_637 dL_law_638 dL_law_639 dL_law_640 ?_
  refine z_callV X (n := 2) (As := [.int (xs (i + 1)), .int (xs (i + 2))]) (rest := [.int n]) 1 hA hF rfl hM q_730 q_731 q_732 q_29 q_733 (by decide +kernel) ⟨Nat.le_of_ble_eq_true rfl, Nat.le_of_ble_eq_true rfl⟩ rfl rfl (Nat.le_of_ble_eq_true rfl) dL_law_641 ⟨(by show cells + 2 + 2 ≤ 600000; omega), (by show slots + 13 + 13 ≤ 7302250; omega)⟩ (fun v1 A1 F1 hp _ => ?_)
  obtain ⟨rfl, h2⟩ := hp
  refine z_st (st' := [.int n, .int n]) rfl ?_
  exact z_icmp_eq X (tgt := 998) dL_law_644 (by decide) (fun _ => kb _ _ h2) (fun h => absurd rfl h)
set_option maxHeartbeats 4000000 in
set_option maxRecDepth 100000 in
theorem arm_put (X : Cx G cy s.heap.size ad0 (fun _ => none) cL_law 8 ret RL p s m args meth c) (hX : va_X b L xs s s.heap) (hbl : b < s.heap.size) (hL : L ≤ 3072) (hi : i + 6 ≤ L) (hW : RW cy a0 a1 A F) (hcs : cells + 4 ≤ 600000 ∧ slots + 26 ≤ 7302250) (kb : ∀ A F, RW cy a0 a1 A F → Z G s.heap.size 8 ad0 (fun _ => none) p l e room_1 s m args below meth c Q A F (cells + 4) (slots + 26) 998 (lvI b a0 a1 i) []) : Z G s.heap.size 8 ad0 (fun _ => none) p l e room_1 s m args below meth c Q A F cells slots 649 (lvI b a0 a1 i) [] := by
  refine z_aload_n X 1 dL_law_649 rfl rfl ?_
  refine z_arg X hX hbl hL 1 (by decide) (by omega) 0 3 rfl rfl dL_law_650 dL_law_651 dL_law_652 dL_law_653 dL_law_654 ?_
  refine z_arg X hX hbl hL 2 (by decide) (by omega) 0 3 rfl rfl dL_law_655 dL_law_656 dL_law_657 dL_law_658 dL_law_659 ?_
  obtain ⟨e0, fs0, ef0⟩ := rw_0 hW
  refine z_callV X (n := 2) (As := [.int (xs (i + 1)), .int (xs (i + 2))]) (rest := []) 0 e0 ef0 rfl (s_put l G cy s.heap.size hW _ _) q_290 q_291 q_292 q_24 q_293 (by decide +kernel) ⟨Nat.le_of_ble_eq_true rfl, Nat.le_of_ble_eq_true rfl⟩ rfl rfl (Nat.le_of_ble_eq_true rfl) dL_law_660 ⟨(by show cells + 2 ≤ 600000; omega), (by show slots + 13 ≤ 7302250; omega)⟩ (fun v0 A0 F0 hp _ => ?_)
  obtain ⟨n, rfl, hA, ⟨fs, hF⟩, hM⟩ := hp
  refine z_st (st' := [.int n]) rfl ?_
  refine z_aload_n X 2 dL_law_663 rfl rfl ?_
  refine z_arg X hX hbl hL 1 (by decide) (by omega) 0 3 rfl rfl dL_law_664 dL_law_665 dL_law_666 dL_law_667 dL_law_668 ?_
  refine z_arg X hX hbl hL 2 (by decide) (by omega) 0 3 rfl rfl dL_law_669 dL_law_670 dL_law_671 dL_law_672 dL_law_673 ?_
  refine z_callV X (n := 2) (As := [.int (xs (i + 1)), .int (xs (i + 2))]) (rest := [.int n]) 1 hA hF rfl hM q_735 q_736 q_737 q_29 q_738 (by decide +kernel) ⟨Nat.le_of_ble_eq_true rfl, Nat.le_of_ble_eq_true rfl⟩ rfl rfl (Nat.le_of_ble_eq_true rfl) dL_law_674 ⟨(by show cells + 2 + 2 ≤ 600000; omega), (by show slots + 13 + 13 ≤ 7302250; omega)⟩ (fun v1 A1 F1 hp _ => ?_)
  obtain ⟨rfl, h2⟩ := hp
  refine z_st (st' := [.int n, .int n]) rfl ?_
  exact z_icmp_eq X (tgt := 998) dL_law_677 (by decide) (fun _ => kb _ _ h2) (fun h => absurd rfl h)
set_option maxHeartbeats 4000000 in
set_option maxRecDepth 100000 in
theorem arm_first (X : Cx G cy s.heap.size ad0 (fun _ => none) cL_law 8 ret RL p s m args meth c) (hX : va_X b L xs s s.heap) (hbl : b < s.heap.size) (hL : L ≤ 3072) (hi : i + 6 ≤ L) (hW : RW cy a0 a1 A F) (hcs : cells + 4 ≤ 600000 ∧ slots + 26 ≤ 7302250) (kb : ∀ A F, RW cy a0 a1 A F → Z G s.heap.size 8 ad0 (fun _ => none) p l e room_1 s m args below meth c Q A F (cells + 4) (slots + 26) 998 (lvI b a0 a1 i) []) : Z G s.heap.size 8 ad0 (fun _ => none) p l e room_1 s m args below meth c Q A F cells slots 682 (lvI b a0 a1 i) [] := by
  refine z_aload_n X 1 dL_law_682 rfl rfl ?_
  refine z_arg X hX hbl hL 1 (by decide) (by omega) 0 3 rfl rfl dL_law_683 dL_law_684 dL_law_685 dL_law_686 dL_law_687 ?_
  obtain ⟨e0, fs0, ef0⟩ := rw_0 hW
  refine z_callV X (n := 1) (As := [.int (xs (i + 1))]) (rest := []) 0 e0 ef0 rfl (s_first l G cy s.heap.size hW _) q_322 q_323 q_324 q_24 q_325 (by decide +kernel) ⟨Nat.le_of_ble_eq_true rfl, Nat.le_of_ble_eq_true rfl⟩ rfl rfl (Nat.le_of_ble_eq_true rfl) dL_law_688 ⟨(by show cells + 2 ≤ 600000; omega), (by show slots + 13 ≤ 7302250; omega)⟩ (fun v0 A0 F0 hp _ => ?_)
  obtain ⟨n, rfl, hA, ⟨fs, hF⟩, hM⟩ := hp
  refine z_st (st' := [.int n]) rfl ?_
  refine z_aload_n X 2 dL_law_691 rfl rfl ?_
  refine z_arg X hX hbl hL 1 (by decide) (by omega) 0 3 rfl rfl dL_law_692 dL_law_693 dL_law_694 dL_law_695 dL_law_696 ?_
  refine z_callV X (n := 1) (As := [.int (xs (i + 1))]) (rest := [.int n]) 1 hA hF rfl hM q_745 q_746 q_747 q_29 q_748 (by decide +kernel) ⟨Nat.le_of_ble_eq_true rfl, Nat.le_of_ble_eq_true rfl⟩ rfl rfl (Nat.le_of_ble_eq_true rfl) dL_law_697 ⟨(by show cells + 2 + 2 ≤ 600000; omega), (by show slots + 13 + 13 ≤ 7302250; omega)⟩ (fun v1 A1 F1 hp _ => ?_)
  obtain ⟨rfl, h2⟩ := hp
  refine z_st (st' := [.int n, .int n]) rfl ?_
  exact z_icmp_eq X (tgt := 998) dL_law_700 (by decide) (fun _ => kb _ _ h2) (fun h => absurd rfl h)
set_option maxHeartbeats 4000000 in
set_option maxRecDepth 100000 in
theorem arm_lorry (X : Cx G cy s.heap.size ad0 (fun _ => none) cL_law 8 ret RL p s m args meth c) (hX : va_X b L xs s s.heap) (hbl : b < s.heap.size) (hL : L ≤ 3072) (hi : i + 6 ≤ L) (hW : RW cy a0 a1 A F) (hcs : cells + 4 ≤ 600000 ∧ slots + 26 ≤ 7302250) (kb : ∀ A F, RW cy a0 a1 A F → Z G s.heap.size 8 ad0 (fun _ => none) p l e room_1 s m args below meth c Q A F (cells + 4) (slots + 26) 998 (lvI b a0 a1 i) []) : Z G s.heap.size 8 ad0 (fun _ => none) p l e room_1 s m args below meth c Q A F cells slots 705 (lvI b a0 a1 i) [] := by
  refine z_aload_n X 1 dL_law_705 rfl rfl ?_
  refine z_lng X hX hbl hL 1 (by decide) (by decide) (by omega) 0 3 rfl rfl q_786 dL_law_706 dL_law_707 dL_law_708 dL_law_709 dL_law_710 dL_law_711 dL_law_712 dL_law_714 dL_law_715 dL_law_716 dL_law_717 dL_law_718 dL_law_719 dL_law_720 dL_law_721 dL_law_724 dL_law_725 ?_
  refine z_lng X hX hbl hL 3 (by decide) (by decide) (by omega) 0 3 rfl rfl q_786 dL_law_726 dL_law_727 dL_law_728 dL_law_729 dL_law_730 dL_law_731 dL_law_732 dL_law_734 dL_law_735 dL_law_736 dL_law_737 dL_law_738 dL_law_739 dL_law_740 dL_law_741 dL_law_744 dL_law_745 ?_
  obtain ⟨e0, fs0, ef0⟩ := rw_0 hW
  refine z_callV X (n := 2) (As := [.long (lwd (xs (i + 1)) (xs (i + (1 + 1)))), .long (lwd (xs (i + 3)) (xs (i + (3 + 1))))]) (rest := []) 0 e0 ef0 rfl (s_lorry l G cy s.heap.size hW _ _) q_326 q_327 q_328 q_24 q_329 (by decide +kernel) ⟨Nat.le_of_ble_eq_true rfl, Nat.le_of_ble_eq_true rfl⟩ rfl rfl (Nat.le_of_ble_eq_true rfl) dL_law_746 ⟨(by show cells + 2 ≤ 600000; omega), (by show slots + 13 ≤ 7302250; omega)⟩ (fun v0 A0 F0 hp _ => ?_)
  obtain ⟨n, rfl, hA, ⟨fs, hF⟩, hM⟩ := hp
  refine z_st (st' := [.int n]) rfl ?_
  refine z_aload_n X 2 dL_law_749 rfl rfl ?_
  refine z_lng X hX hbl hL 1 (by decide) (by decide) (by omega) 0 3 rfl rfl q_786 dL_law_750 dL_law_751 dL_law_752 dL_law_753 dL_law_754 dL_law_755 dL_law_756 dL_law_758 dL_law_759 dL_law_760 dL_law_761 dL_law_762 dL_law_763 dL_law_764 dL_law_765 dL_law_768 dL_law_769 ?_
  refine z_lng X hX hbl hL 3 (by decide) (by decide) (by omega) 0 3 rfl rfl q_786 dL_law_770 dL_law_771 dL_law_772 dL_law_773 dL_law_774 dL_law_775 dL_law_776 dL_law_778 dL_law_779 dL_law_780 dL_law_781 dL_law_782 dL_law_783 dL_law_784 dL_law_785 dL_law_788 dL_law_789 ?_
  refine z_callV X (n := 2) (As := [.long (lwd (xs (i + 1)) (xs (i + (1 + 1)))), .long (lwd (xs (i + 3)) (xs (i + (3 + 1))))]) (rest := [.int n]) 1 hA hF rfl hM q_749 q_750 q_751 q_29 q_752 (by decide +kernel) ⟨Nat.le_of_ble_eq_true rfl, Nat.le_of_ble_eq_true rfl⟩ rfl rfl (Nat.le_of_ble_eq_true rfl) dL_law_790 ⟨(by show cells + 2 + 2 ≤ 600000; omega), (by show slots + 13 + 13 ≤ 7302250; omega)⟩ (fun v1 A1 F1 hp _ => ?_)
  obtain ⟨rfl, h2⟩ := hp
  refine z_st (st' := [.int n, .int n]) rfl ?_
  exact z_icmp_eq X (tgt := 998) dL_law_793 (by decide) (fun _ => kb _ _ h2) (fun h => absurd rfl h)
set_option maxHeartbeats 4000000 in
set_option maxRecDepth 100000 in
theorem arm_load (X : Cx G cy s.heap.size ad0 (fun _ => none) cL_law 8 ret RL p s m args meth c) (hX : va_X b L xs s s.heap) (hbl : b < s.heap.size) (hL : L ≤ 3072) (hi : i + 6 ≤ L) (hW : RW cy a0 a1 A F) (hcs : cells + 4 ≤ 600000 ∧ slots + 26 ≤ 7302250) (kb : ∀ A F, RW cy a0 a1 A F → Z G s.heap.size 8 ad0 (fun _ => none) p l e room_1 s m args below meth c Q A F (cells + 4) (slots + 26) 998 (lvI b a0 a1 i) []) : Z G s.heap.size 8 ad0 (fun _ => none) p l e room_1 s m args below meth c Q A F cells slots 798 (lvI b a0 a1 i) [] := by
  refine z_aload_n X 1 dL_law_798 rfl rfl ?_
  refine z_arg X hX hbl hL 1 (by decide) (by omega) 0 3 rfl rfl dL_law_799 dL_law_800 dL_law_801 dL_law_802 dL_law_803 ?_
  refine z_arg X hX hbl hL 2 (by decide) (by omega) 0 3 rfl rfl dL_law_804 dL_law_805 dL_law_806 dL_law_807 dL_law_808 ?_
  obtain ⟨e0, fs0, ef0⟩ := rw_0 hW
  refine z_callV X (n := 2) (As := [.int (xs (i + 1)), .int (xs (i + 2))]) (rest := []) 0 e0 ef0 rfl (s_load l G cy s.heap.size hW _ _) q_352 q_353 q_354 q_24 q_355 (by decide +kernel) ⟨Nat.le_of_ble_eq_true rfl, Nat.le_of_ble_eq_true rfl⟩ rfl rfl (Nat.le_of_ble_eq_true rfl) dL_law_809 ⟨(by show cells + 2 ≤ 600000; omega), (by show slots + 13 ≤ 7302250; omega)⟩ (fun v0 A0 F0 hp _ => ?_)
  obtain ⟨n, rfl, hA, ⟨fs, hF⟩, hM⟩ := hp
  refine z_st (st' := [.int n]) rfl ?_
  refine z_aload_n X 2 dL_law_812 rfl rfl ?_
  refine z_arg X hX hbl hL 1 (by decide) (by omega) 0 3 rfl rfl dL_law_813 dL_law_814 dL_law_815 dL_law_816 dL_law_817 ?_
  refine z_arg X hX hbl hL 2 (by decide) (by omega) 0 3 rfl rfl dL_law_818 dL_law_819 dL_law_820 dL_law_821 dL_law_822 ?_
  refine z_callV X (n := 2) (As := [.int (xs (i + 1)), .int (xs (i + 2))]) (rest := [.int n]) 1 hA hF rfl hM q_754 q_755 q_756 q_29 q_757 (by decide +kernel) ⟨Nat.le_of_ble_eq_true rfl, Nat.le_of_ble_eq_true rfl⟩ rfl rfl (Nat.le_of_ble_eq_true rfl) dL_law_823 ⟨(by show cells + 2 + 2 ≤ 600000; omega), (by show slots + 13 + 13 ≤ 7302250; omega)⟩ (fun v1 A1 F1 hp _ => ?_)
  obtain ⟨rfl, h2⟩ := hp
  refine z_st (st' := [.int n, .int n]) rfl ?_
  exact z_icmp_eq X (tgt := 998) dL_law_826 (by decide) (fun _ => kb _ _ h2) (fun h => absurd rfl h)
set_option maxHeartbeats 4000000 in
set_option maxRecDepth 100000 in
theorem arm_moment (X : Cx G cy s.heap.size ad0 (fun _ => none) cL_law 8 ret RL p s m args meth c) (hX : va_X b L xs s s.heap) (hbl : b < s.heap.size) (hL : L ≤ 3072) (hi : i + 6 ≤ L) (hW : RW cy a0 a1 A F) (hcs : cells + 4 ≤ 600000 ∧ slots + 26 ≤ 7302250) (kb : ∀ A F, RW cy a0 a1 A F → Z G s.heap.size 8 ad0 (fun _ => none) p l e room_1 s m args below meth c Q A F (cells + 4) (slots + 26) 998 (lvI b a0 a1 i) []) : Z G s.heap.size 8 ad0 (fun _ => none) p l e room_1 s m args below meth c Q A F cells slots 831 (lvI b a0 a1 i) [] := by
  refine z_aload_n X 1 dL_law_831 rfl rfl ?_
  refine z_arg X hX hbl hL 1 (by decide) (by omega) 0 3 rfl rfl dL_law_832 dL_law_833 dL_law_834 dL_law_835 dL_law_836 ?_
  refine z_arg X hX hbl hL 2 (by decide) (by omega) 0 3 rfl rfl dL_law_837 dL_law_838 dL_law_839 dL_law_840 dL_law_841 ?_
  obtain ⟨e0, fs0, ef0⟩ := rw_0 hW
  refine z_callV X (n := 2) (As := [.int (xs (i + 1)), .int (xs (i + 2))]) (rest := []) 0 e0 ef0 rfl (s_moment l G cy s.heap.size hW _ _) q_370 q_371 q_372 q_24 q_373 (by decide +kernel) ⟨Nat.le_of_ble_eq_true rfl, Nat.le_of_ble_eq_true rfl⟩ rfl rfl (Nat.le_of_ble_eq_true rfl) dL_law_842 ⟨(by show cells + 2 ≤ 600000; omega), (by show slots + 13 ≤ 7302250; omega)⟩ (fun v0 A0 F0 hp _ => ?_)
  obtain ⟨n, rfl, hA, ⟨fs, hF⟩, hM⟩ := hp
  refine z_st (st' := [.long n]) rfl ?_
  refine z_aload_n X 2 dL_law_845 rfl rfl ?_
  refine z_arg X hX hbl hL 1 (by decide) (by omega) 0 3 rfl rfl dL_law_846 dL_law_847 dL_law_848 dL_law_849 dL_law_850 ?_
  refine z_arg X hX hbl hL 2 (by decide) (by omega) 0 3 rfl rfl dL_law_851 dL_law_852 dL_law_853 dL_law_854 dL_law_855 ?_
  refine z_callV X (n := 2) (As := [.int (xs (i + 1)), .int (xs (i + 2))]) (rest := [.long n]) 1 hA hF rfl hM q_761 q_762 q_763 q_29 q_764 (by decide +kernel) ⟨Nat.le_of_ble_eq_true rfl, Nat.le_of_ble_eq_true rfl⟩ rfl rfl (Nat.le_of_ble_eq_true rfl) dL_law_856 ⟨(by show cells + 2 + 2 ≤ 600000; omega), (by show slots + 13 + 13 ≤ 7302250; omega)⟩ (fun v1 A1 F1 hp _ => ?_)
  obtain ⟨rfl, h2⟩ := hp
  refine z_st (st' := [.long n, .long n]) rfl ?_
  exact z_lcmp_eq X (tgt := 998) dL_law_859 dL_law_860 (by decide) (fun _ => kb _ _ h2) (fun h => absurd rfl h)
set_option maxHeartbeats 4000000 in
set_option maxRecDepth 100000 in
theorem arm_rebale (X : Cx G cy s.heap.size ad0 (fun _ => none) cL_law 8 ret RL p s m args meth c) (hX : va_X b L xs s s.heap) (hbl : b < s.heap.size) (hL : L ≤ 3072) (hi : i + 6 ≤ L) (hW : RW cy a0 a1 A F) (hcs : cells + 4 ≤ 600000 ∧ slots + 26 ≤ 7302250) (kb : ∀ A F, RW cy a0 a1 A F → Z G s.heap.size 8 ad0 (fun _ => none) p l e room_1 s m args below meth c Q A F (cells + 4) (slots + 26) 998 (lvI b a0 a1 i) []) : Z G s.heap.size 8 ad0 (fun _ => none) p l e room_1 s m args below meth c Q A F cells slots 865 (lvI b a0 a1 i) [] := by
  refine z_aload_n X 1 dL_law_865 rfl rfl ?_
  refine z_arg X hX hbl hL 1 (by decide) (by omega) 0 3 rfl rfl dL_law_866 dL_law_867 dL_law_868 dL_law_869 dL_law_870 ?_
  refine z_arg X hX hbl hL 2 (by decide) (by omega) 0 3 rfl rfl dL_law_871 dL_law_872 dL_law_873 dL_law_874 dL_law_875 ?_
  obtain ⟨e0, fs0, ef0⟩ := rw_0 hW
  refine z_callV X (n := 2) (As := [.int (xs (i + 1)), .int (xs (i + 2))]) (rest := []) 0 e0 ef0 rfl (s_rebale l G cy s.heap.size hW _ _) q_374 q_375 q_376 q_24 q_377 (by decide +kernel) ⟨Nat.le_of_ble_eq_true rfl, Nat.le_of_ble_eq_true rfl⟩ rfl rfl (Nat.le_of_ble_eq_true rfl) dL_law_876 ⟨(by show cells + 2 ≤ 600000; omega), (by show slots + 13 ≤ 7302250; omega)⟩ (fun v0 A0 F0 hp _ => ?_)
  obtain ⟨n, rfl, hA, ⟨fs, hF⟩, hM⟩ := hp
  refine z_st (st' := [.int n]) rfl ?_
  refine z_aload_n X 2 dL_law_879 rfl rfl ?_
  refine z_arg X hX hbl hL 1 (by decide) (by omega) 0 3 rfl rfl dL_law_880 dL_law_881 dL_law_882 dL_law_883 dL_law_884 ?_
  refine z_arg X hX hbl hL 2 (by decide) (by omega) 0 3 rfl rfl dL_law_885 dL_law_886 dL_law_887 dL_law_888 dL_law_889 ?_
  refine z_callV X (n := 2) (As := [.int (xs (i + 1)), .int (xs (i + 2))]) (rest := [.int n]) 1 hA hF rfl hM q_765 q_766 q_767 q_29 q_768 (by decide +kernel) ⟨Nat.le_of_ble_eq_true rfl, Nat.le_of_ble_eq_true rfl⟩ rfl rfl (Nat.le_of_ble_eq_true rfl) dL_law_890 ⟨(by show cells + 2 + 2 ≤ 600000; omega), (by show slots + 13 + 13 ≤ 7302250; omega)⟩ (fun v1 A1 F1 hp _ => ?_)
  obtain ⟨rfl, h2⟩ := hp
  refine z_st (st' := [.int n, .int n]) rfl ?_
  exact z_icmp_eq X (tgt := 998) dL_law_893 (by decide) (fun _ => kb _ _ h2) (fun h => absurd rfl h)
set_option maxHeartbeats 4000000 in
set_option maxRecDepth 100000 in
theorem arm_brought (X : Cx G cy s.heap.size ad0 (fun _ => none) cL_law 8 ret RL p s m args meth c) (hX : va_X b L xs s s.heap) (hbl : b < s.heap.size) (hL : L ≤ 3072) (hi : i + 6 ≤ L) (hW : RW cy a0 a1 A F) (hcs : cells + 4 ≤ 600000 ∧ slots + 26 ≤ 7302250) (kb : ∀ A F, RW cy a0 a1 A F → Z G s.heap.size 8 ad0 (fun _ => none) p l e room_1 s m args below meth c Q A F (cells + 4) (slots + 26) 998 (lvI b a0 a1 i) []) : Z G s.heap.size 8 ad0 (fun _ => none) p l e room_1 s m args below meth c Q A F cells slots 898 (lvI b a0 a1 i) [] := by
  refine z_aload_n X 1 dL_law_898 rfl rfl ?_
  refine z_arg X hX hbl hL 1 (by decide) (by omega) 0 3 rfl rfl dL_law_899 dL_law_900 dL_law_901 dL_law_902 dL_law_903 ?_
  refine z_arg X hX hbl hL 2 (by decide) (by omega) 0 3 rfl rfl dL_law_904 dL_law_905 dL_law_906 dL_law_907 dL_law_908 ?_
  refine z_arg X hX hbl hL 3 (by decide) (by omega) 0 3 rfl rfl dL_law_909 dL_law_910 dL_law_911 dL_law_912 dL_law_913 ?_
  obtain ⟨e0, fs0, ef0⟩ := rw_0 hW
  refine z_callV X (n := 3) (As := [.int (xs (i + 1)), .int (xs (i + 2)), .int (xs (i + 3))]) (rest := []) 0 e0 ef0 rfl (s_brought l G cy s.heap.size hW _ _ _) q_384 q_385 q_386 q_24 q_387 (by decide +kernel) ⟨Nat.le_of_ble_eq_true rfl, Nat.le_of_ble_eq_true rfl⟩ rfl rfl (Nat.le_of_ble_eq_true rfl) dL_law_914 ⟨(by show cells + 2 ≤ 600000; omega), (by show slots + 13 ≤ 7302250; omega)⟩ (fun v0 A0 F0 hp _ => ?_)
  obtain ⟨n, rfl, hA, ⟨fs, hF⟩, hM⟩ := hp
  refine z_st (st' := [.long n]) rfl ?_
  refine z_aload_n X 2 dL_law_917 rfl rfl ?_
  refine z_arg X hX hbl hL 1 (by decide) (by omega) 0 3 rfl rfl dL_law_918 dL_law_919 dL_law_920 dL_law_921 dL_law_922 ?_
  refine z_arg X hX hbl hL 2 (by decide) (by omega) 0 3 rfl rfl dL_law_923 dL_law_924 dL_law_925 dL_law_926 dL_law_927 ?_
  refine z_arg X hX hbl hL 3 (by decide) (by omega) 0 3 rfl rfl dL_law_928 dL_law_929 dL_law_930 dL_law_931 dL_law_932 ?_
  refine z_callV X (n := 3) (As := [.int (xs (i + 1)), .int (xs (i + 2)), .int (xs (i + 3))]) (rest := [.long n]) 1 hA hF rfl hM q_769 q_770 q_771 q_29 q_772 (by decide +kernel) ⟨Nat.le_of_ble_eq_true rfl, Nat.le_of_ble_eq_true rfl⟩ rfl rfl (Nat.le_of_ble_eq_true rfl) dL_law_933 ⟨(by show cells + 2 + 2 ≤ 600000; omega), (by show slots + 13 + 13 ≤ 7302250; omega)⟩ (fun v1 A1 F1 hp _ => ?_)
  obtain ⟨rfl, h2⟩ := hp
  refine z_st (st' := [.long n, .long n]) rfl ?_
  exact z_lcmp_eq X (tgt := 998) dL_law_936 dL_law_937 (by decide) (fun _ => kb _ _ h2) (fun h => absurd rfl h)
set_option maxHeartbeats 4000000 in
set_option maxRecDepth 100000 in
theorem arm_label (X : Cx G cy s.heap.size ad0 (fun _ => none) cL_law 8 ret RL p s m args meth c) (hX : va_X b L xs s s.heap) (hbl : b < s.heap.size) (hL : L ≤ 3072) (hi : i + 6 ≤ L) (hW : RW cy a0 a1 A F) (hcs : cells + 4 ≤ 600000 ∧ slots + 26 ≤ 7302250) (kb : ∀ A F, RW cy a0 a1 A F → Z G s.heap.size 8 ad0 (fun _ => none) p l e room_1 s m args below meth c Q A F (cells + 4) (slots + 26) 998 (lvI b a0 a1 i) []) : Z G s.heap.size 8 ad0 (fun _ => none) p l e room_1 s m args below meth c Q A F cells slots 942 (lvI b a0 a1 i) [] := by
  refine z_aload_n X 1 dL_law_942 rfl rfl ?_
  refine z_arg X hX hbl hL 1 (by decide) (by omega) 0 3 rfl rfl dL_law_943 dL_law_944 dL_law_945 dL_law_946 dL_law_947 ?_
  refine z_arg X hX hbl hL 2 (by decide) (by omega) 0 3 rfl rfl dL_law_948 dL_law_949 dL_law_950 dL_law_951 dL_law_952 ?_
  obtain ⟨e0, fs0, ef0⟩ := rw_0 hW
  refine z_callV X (n := 2) (As := [.int (xs (i + 1)), .int (xs (i + 2))]) (rest := []) 0 e0 ef0 rfl (s_label l G cy s.heap.size hW _ _) q_388 q_389 q_390 q_24 q_391 (by decide +kernel) ⟨Nat.le_of_ble_eq_true rfl, Nat.le_of_ble_eq_true rfl⟩ rfl rfl (Nat.le_of_ble_eq_true rfl) dL_law_953 ⟨(by show cells + 2 ≤ 600000; omega), (by show slots + 13 ≤ 7302250; omega)⟩ (fun v0 A0 F0 hp _ => ?_)
  obtain ⟨n, rfl, hA, ⟨fs, hF⟩, hM⟩ := hp
  refine z_st (st' := [.int n]) rfl ?_
  refine z_aload_n X 2 dL_law_956 rfl rfl ?_
  refine z_arg X hX hbl hL 1 (by decide) (by omega) 0 3 rfl rfl dL_law_957 dL_law_958 dL_law_959 dL_law_960 dL_law_961 ?_
  refine z_arg X hX hbl hL 2 (by decide) (by omega) 0 3 rfl rfl dL_law_962 dL_law_963 dL_law_964 dL_law_965 dL_law_966 ?_
  refine z_callV X (n := 2) (As := [.int (xs (i + 1)), .int (xs (i + 2))]) (rest := [.int n]) 1 hA hF rfl hM q_773 q_774 q_775 q_29 q_776 (by decide +kernel) ⟨Nat.le_of_ble_eq_true rfl, Nat.le_of_ble_eq_true rfl⟩ rfl rfl (Nat.le_of_ble_eq_true rfl) dL_law_967 ⟨(by show cells + 2 + 2 ≤ 600000; omega), (by show slots + 13 + 13 ≤ 7302250; omega)⟩ (fun v1 A1 F1 hp _ => ?_)
  obtain ⟨rfl, h2⟩ := hp
  refine z_st (st' := [.int n, .int n]) rfl ?_
  exact z_icmp_eq X (tgt := 998) dL_law_970 (by decide) (fun _ => kb _ _ h2) (fun h => absurd rfl h)
set_option maxHeartbeats 4000000 in
set_option maxRecDepth 100000 in
theorem arm_state (X : Cx G cy s.heap.size ad0 (fun _ => none) cL_law 8 ret RL p s m args meth c) (hX : va_X b L xs s s.heap) (hbl : b < s.heap.size) (hL : L ≤ 3072) (hi : i + 6 ≤ L) (hW : RW cy a0 a1 A F) (hcs : cells + 4 ≤ 600000 ∧ slots + 26 ≤ 7302250) (kb : ∀ A F, RW cy a0 a1 A F → Z G s.heap.size 8 ad0 (fun _ => none) p l e room_1 s m args below meth c Q A F (cells + 4) (slots + 26) 998 (lvI b a0 a1 i) []) : Z G s.heap.size 8 ad0 (fun _ => none) p l e room_1 s m args below meth c Q A F cells slots 975 (lvI b a0 a1 i) [] := by
  refine z_aload_n X 1 dL_law_975 rfl rfl ?_
  refine z_arg X hX hbl hL 1 (by decide) (by omega) 0 3 rfl rfl dL_law_976 dL_law_977 dL_law_978 dL_law_979 dL_law_980 ?_
  obtain ⟨e0, fs0, ef0⟩ := rw_0 hW
  refine z_callV X (n := 1) (As := [.int (xs (i + 1))]) (rest := []) 0 e0 ef0 rfl (s_state l G cy s.heap.size hW _) q_549 q_550 q_551 q_24 q_552 (by decide +kernel) ⟨Nat.le_of_ble_eq_true rfl, Nat.le_of_ble_eq_true rfl⟩ rfl rfl (Nat.le_of_ble_eq_true rfl) dL_law_981 ⟨(by show cells + 2 ≤ 600000; omega), (by show slots + 13 ≤ 7302250; omega)⟩ (fun v0 A0 F0 hp _ => ?_)
  obtain ⟨n, rfl, hA, ⟨fs, hF⟩, hM⟩ := hp
  refine z_st (st' := [.int n]) rfl ?_
  refine z_aload_n X 2 dL_law_984 rfl rfl ?_
  refine z_arg X hX hbl hL 1 (by decide) (by omega) 0 3 rfl rfl dL_law_985 dL_law_986 dL_law_987 dL_law_988 dL_law_989 ?_
  refine z_callV X (n := 1) (As := [.int (xs (i + 1))]) (rest := [.int n]) 1 hA hF rfl hM q_703 q_704 q_705 q_29 q_706 (by decide +kernel) ⟨Nat.le_of_ble_eq_true rfl, Nat.le_of_ble_eq_true rfl⟩ rfl rfl (Nat.le_of_ble_eq_true rfl) dL_law_990 ⟨(by show cells + 2 + 2 ≤ 600000; omega), (by show slots + 13 + 13 ≤ 7302250; omega)⟩ (fun v1 A1 F1 hp _ => ?_)
  obtain ⟨rfl, h2⟩ := hp
  refine z_st (st' := [.int n, .int n]) rfl ?_
  exact z_icmp_eq X (tgt := 998) dL_law_993 (by decide) (fun _ => kb _ _ h2) (fun h => absurd rfl h)
end ARMS
