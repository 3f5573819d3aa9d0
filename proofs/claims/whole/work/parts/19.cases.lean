theorem mInj_upM {g : mG} {b n : Nat} (hg : ∀ i, g.2.1 i = b + 190 + i) : mInj g n := fun i j _ _ h => by rw [hg, hg] at h; omega
abbrev lNx (p : Program) (l : Launch) (e : Env) (s : State) (m : MethodId) (below : List Frame) (meth : Method) (c : Code) (cells slots : Nat) (Q : State → Prop) (b0 : Nat) (gX gM : mG) (ls : Array Slot) : Prop := ∀ (I : mI) (J : mJ) (R : mR) (I' : mI) (J' : mJ) (H : Heap) (locs : List Loc), lHp gX gM s I J R I' J' H locs → Sim I R I' → W p l e room_1 s m #[Value.ref b0] below meth c H locs cells slots Q (F0 m 939 ls [])
set_option maxRecDepth 20000 in
theorem clL_13 : mCV RL 13 RX8 yX8_file cX8_file 2 (some .int) 1 := ⟨mT_at 269 rfl rfl, mT_at 270 rfl rfl, mT_at 271 rfl rfl, mT_at 1 rfl rfl, mT_at 272 rfl rfl, rfl, by decide, by decide, by decide +kernel⟩
set_option maxRecDepth 20000 in
theorem clL_17 : mCV RL 17 RX9 yX9_file cX9_file 3 (some .int) 1 := ⟨mT_at 745 rfl rfl, mT_at 746 rfl rfl, mT_at 747 rfl rfl, mT_at 10 rfl rfl, mT_at 748 rfl rfl, rfl, by decide, by decide, by decide +kernel⟩
set_option maxHeartbeats 4000000 in
set_option maxRecDepth 100000 in
theorem lk_file {p : Program} {l : Launch} {e : Env} {s : State} {m : MethodId} {below : List Frame} {meth : Method} {c : Code} {H : Heap} {locs : List Loc} {cells slots : Nat} {Q : State → Prop} {ls : Array Slot} {b0 L i : Nat} {xs : Nat → Int32} {gX gM : mG} {I I' : mI} {J J' : mJ} {R : mR} (B : lFix p m c s b0 gX gM) (hX : va_X b0 L xs s s.heap) (hbl : b0 < s.heap.size) (hL : L ≤ 3072) (hi : i + 6 ≤ L) (hcs : cells ≤ room_1.cells ∧ slots ≤ room_1.slots) (hw : lHp gX gM s I J R I' J' H locs) (hS : Sim I R I') (hl : lv_has ls 4 [(3, .int (nI i)), (2, .ref (gM.2.1 0)), (1, .ref (gX.2.1 0)), (0, .ref b0)]) (kk : lNx p l e s m below meth c cells slots Q b0 gX gM ls) : W p l e room_1 s m #[Value.ref b0] below meth c H locs cells slots Q (F0 m 140 ls []) := by
  have hx := B.1.1
  have hb := B.1.2.1
  obtain ⟨v, I1, I1', e1, e2, hS1⟩ := s_file hS J J' (xs (i + 1))
  refine lv_aload_n hx hb dL_law_140 rfl (lv_at hl 2 rfl) ?_
  refine l_arg (k := 1) hx hb hX hbl hw.2.2 hl hL (by omega) (by decide) dL_law_141 dL_law_142 dL_law_143 dL_law_144 dL_law_145 ?_
  refine lcX (rest := []) (I1 := I1) (J1 := J) (R1 := R) (rv := some (.int v)) B hw [.int (xs (i + 1))] clL_13 (r_X8_file l gX kX 190 (mInj_up B.2.2.2.1) kX_ok 0 (xs (i + 1)) I J R (v, I1) e1) ⟨rfl, rfl, Nat.le_of_ble_eq_true rfl, Nat.le_of_ble_eq_true rfl⟩ rfl hl.1 (Nat.le_of_ble_eq_true rfl) hcs dL_law_146 (fun H locs hw => ?_)
  refine W.eq (g2 := F0 m 149 ls [.int v]) rfl ?_
  refine lv_aload_n hx hb dL_law_149 rfl (lv_at hl 1 rfl) ?_
  refine l_arg (k := 1) hx hb hX hbl hw.2.2 hl hL (by omega) (by decide) dL_law_150 dL_law_151 dL_law_152 dL_law_153 dL_law_154 ?_
  refine lcM (rest := [.int v]) (I1' := I1') (J1' := J') (rv := some (.int v)) B hw [.int (xs (i + 1))] clL_17 (r_X9_file l gM kM 17 (mInj_upM B.2.2.2.2.1) kM_ok 0 (xs (i + 1)) I' J' rM (v, I1') e2) ⟨rfl, rfl, Nat.le_of_ble_eq_true rfl, Nat.le_of_ble_eq_true rfl⟩ rfl hl.1 (Nat.le_of_ble_eq_true rfl) hcs dL_law_155 (fun H locs hw => ?_)
  refine W.eq (g2 := F0 m 158 ls [.int v, .int v]) rfl ?_
  refine lv_icmp_eq (tgt := 939) hx hb dL_law_158 (by decide) (fun _ => ?_) (fun q => absurd rfl q)
  exact kk I1 J R I1' J' H locs hw hS1
set_option maxRecDepth 20000 in
theorem clL_18 : mCV RL 18 RX8 yX8_sex cX8_sex 5 (some .boolean) 3 := ⟨mT_at 277 rfl rfl, mT_at 278 rfl rfl, mT_at 279 rfl rfl, mT_at 1 rfl rfl, mT_at 280 rfl rfl, rfl, by decide, by decide, by decide +kernel⟩
set_option maxRecDepth 20000 in
theorem clL_22 : mCV RL 22 RX9 yX9_sex cX9_sex 4 (some .boolean) 3 := ⟨mT_at 752 rfl rfl, mT_at 753 rfl rfl, mT_at 754 rfl rfl, mT_at 10 rfl rfl, mT_at 755 rfl rfl, rfl, by decide, by decide, by decide +kernel⟩
set_option maxHeartbeats 4000000 in
set_option maxRecDepth 100000 in
theorem lk_sex {p : Program} {l : Launch} {e : Env} {s : State} {m : MethodId} {below : List Frame} {meth : Method} {c : Code} {H : Heap} {locs : List Loc} {cells slots : Nat} {Q : State → Prop} {ls : Array Slot} {b0 L i : Nat} {xs : Nat → Int32} {gX gM : mG} {I I' : mI} {J J' : mJ} {R : mR} (B : lFix p m c s b0 gX gM) (hX : va_X b0 L xs s s.heap) (hbl : b0 < s.heap.size) (hL : L ≤ 3072) (hi : i + 6 ≤ L) (hcs : cells ≤ room_1.cells ∧ slots ≤ room_1.slots) (hw : lHp gX gM s I J R I' J' H locs) (hS : Sim I R I') (hl : lv_has ls 4 [(3, .int (nI i)), (2, .ref (gM.2.1 0)), (1, .ref (gX.2.1 0)), (0, .ref b0)]) (kk : lNx p l e s m below meth c cells slots Q b0 gX gM ls) : W p l e room_1 s m #[Value.ref b0] below meth c H locs cells slots Q (F0 m 163 ls []) := by
  have hx := B.1.1
  have hb := B.1.2.1
  obtain ⟨v, I1, I1', e1, e2, hS1⟩ := s_sex hS J J' (xs (i + 1)) (xs (i + 2)) (xs (i + 3))
  refine lv_aload_n hx hb dL_law_163 rfl (lv_at hl 2 rfl) ?_
  refine l_arg (k := 1) hx hb hX hbl hw.2.2 hl hL (by omega) (by decide) dL_law_164 dL_law_165 dL_law_166 dL_law_167 dL_law_168 ?_
  refine l_arg (k := 2) hx hb hX hbl hw.2.2 hl hL (by omega) (by decide) dL_law_169 dL_law_170 dL_law_171 dL_law_172 dL_law_173 ?_
  refine l_arg (k := 3) hx hb hX hbl hw.2.2 hl hL (by omega) (by decide) dL_law_174 dL_law_175 dL_law_176 dL_law_177 dL_law_178 ?_
  refine lcX (rest := []) (I1 := I1) (J1 := J) (R1 := R) (rv := some (.int (mb v))) B hw [.int (xs (i + 1)), .int (xs (i + 2)), .int (xs (i + 3))] clL_18 (r_X8_sex l gX kX 190 (mInj_up B.2.2.2.1) kX_ok 0 (xs (i + 1)) (xs (i + 2)) (xs (i + 3)) I J R (v, I1) e1) ⟨rfl, rfl, Nat.le_of_ble_eq_true rfl, Nat.le_of_ble_eq_true rfl⟩ rfl hl.1 (Nat.le_of_ble_eq_true rfl) hcs dL_law_179 (fun H locs hw => ?_)
  refine W.eq (g2 := F0 m 182 ls [.int (mb v)]) rfl ?_
  refine lv_aload_n hx hb dL_law_182 rfl (lv_at hl 1 rfl) ?_
  refine l_arg (k := 1) hx hb hX hbl hw.2.2 hl hL (by omega) (by decide) dL_law_183 dL_law_184 dL_law_185 dL_law_186 dL_law_187 ?_
  refine l_arg (k := 2) hx hb hX hbl hw.2.2 hl hL (by omega) (by decide) dL_law_188 dL_law_189 dL_law_190 dL_law_191 dL_law_192 ?_
  refine l_arg (k := 3) hx hb hX hbl hw.2.2 hl hL (by omega) (by decide) dL_law_193 dL_law_194 dL_law_195 dL_law_196 dL_law_197 ?_
  refine lcM (rest := [.int (mb v)]) (I1' := I1') (J1' := J') (rv := some (.int (mb v))) B hw [.int (xs (i + 1)), .int (xs (i + 2)), .int (xs (i + 3))] clL_22 (r_X9_sex l gM kM 17 (mInj_upM B.2.2.2.2.1) kM_ok 0 (xs (i + 1)) (xs (i + 2)) (xs (i + 3)) I' J' rM (v, I1') e2) ⟨rfl, rfl, Nat.le_of_ble_eq_true rfl, Nat.le_of_ble_eq_true rfl⟩ rfl hl.1 (Nat.le_of_ble_eq_true rfl) hcs dL_law_198 (fun H locs hw => ?_)
  refine W.eq (g2 := F0 m 201 ls [.int (mb v), .int (mb v)]) rfl ?_
  refine lv_icmp_eq (tgt := 939) hx hb dL_law_201 (by decide) (fun _ => ?_) (fun q => absurd rfl q)
  exact kk I1 J R I1' J' H locs hw hS1
set_option maxRecDepth 20000 in
theorem clL_23 : mCV RL 23 RX8 yX8_age cX8_age 6 (some .boolean) 4 := ⟨mT_at 292 rfl rfl, mT_at 293 rfl rfl, mT_at 294 rfl rfl, mT_at 1 rfl rfl, mT_at 295 rfl rfl, rfl, by decide, by decide, by decide +kernel⟩
set_option maxRecDepth 20000 in
theorem clL_27 : mCV RL 27 RX9 yX9_age cX9_age 5 (some .boolean) 4 := ⟨mT_at 764 rfl rfl, mT_at 765 rfl rfl, mT_at 766 rfl rfl, mT_at 10 rfl rfl, mT_at 767 rfl rfl, rfl, by decide, by decide, by decide +kernel⟩
set_option maxHeartbeats 4000000 in
set_option maxRecDepth 100000 in
theorem lk_age {p : Program} {l : Launch} {e : Env} {s : State} {m : MethodId} {below : List Frame} {meth : Method} {c : Code} {H : Heap} {locs : List Loc} {cells slots : Nat} {Q : State → Prop} {ls : Array Slot} {b0 L i : Nat} {xs : Nat → Int32} {gX gM : mG} {I I' : mI} {J J' : mJ} {R : mR} (B : lFix p m c s b0 gX gM) (hX : va_X b0 L xs s s.heap) (hbl : b0 < s.heap.size) (hL : L ≤ 3072) (hi : i + 6 ≤ L) (hcs : cells ≤ room_1.cells ∧ slots ≤ room_1.slots) (hw : lHp gX gM s I J R I' J' H locs) (hS : Sim I R I') (hl : lv_has ls 4 [(3, .int (nI i)), (2, .ref (gM.2.1 0)), (1, .ref (gX.2.1 0)), (0, .ref b0)]) (kk : lNx p l e s m below meth c cells slots Q b0 gX gM ls) : W p l e room_1 s m #[Value.ref b0] below meth c H locs cells slots Q (F0 m 206 ls []) := by
  have hx := B.1.1
  have hb := B.1.2.1
  obtain ⟨v, I1, I1', e1, e2, hS1⟩ := s_age hS J J' (xs (i + 1)) (xs (i + 2)) (xs (i + 3)) (xs (i + 4))
  refine lv_aload_n hx hb dL_law_206 rfl (lv_at hl 2 rfl) ?_
  refine l_arg (k := 1) hx hb hX hbl hw.2.2 hl hL (by omega) (by decide) dL_law_207 dL_law_208 dL_law_209 dL_law_210 dL_law_211 ?_
  refine l_arg (k := 2) hx hb hX hbl hw.2.2 hl hL (by omega) (by decide) dL_law_212 dL_law_213 dL_law_214 dL_law_215 dL_law_216 ?_
  refine l_arg (k := 3) hx hb hX hbl hw.2.2 hl hL (by omega) (by decide) dL_law_217 dL_law_218 dL_law_219 dL_law_220 dL_law_221 ?_
  refine l_arg (k := 4) hx hb hX hbl hw.2.2 hl hL (by omega) (by decide) dL_law_222 dL_law_223 dL_law_224 dL_law_225 dL_law_226 ?_
  refine lcX (rest := []) (I1 := I1) (J1 := J) (R1 := R) (rv := some (.int (mb v))) B hw [.int (xs (i + 1)), .int (xs (i + 2)), .int (xs (i + 3)), .int (xs (i + 4))] clL_23 (r_X8_age l gX kX 190 (mInj_up B.2.2.2.1) kX_ok 0 (xs (i + 1)) (xs (i + 2)) (xs (i + 3)) (xs (i + 4)) I J R (v, I1) e1) ⟨rfl, rfl, Nat.le_of_ble_eq_true rfl, Nat.le_of_ble_eq_true rfl⟩ rfl hl.1 (Nat.le_of_ble_eq_true rfl) hcs dL_law_227 (fun H locs hw => ?_)
  refine W.eq (g2 := F0 m 230 ls [.int (mb v)]) rfl ?_
  refine lv_aload_n hx hb dL_law_230 rfl (lv_at hl 1 rfl) ?_
  refine l_arg (k := 1) hx hb hX hbl hw.2.2 hl hL (by omega) (by decide) dL_law_231 dL_law_232 dL_law_233 dL_law_234 dL_law_235 ?_
  refine l_arg (k := 2) hx hb hX hbl hw.2.2 hl hL (by omega) (by decide) dL_law_236 dL_law_237 dL_law_238 dL_law_239 dL_law_240 ?_
  refine l_arg (k := 3) hx hb hX hbl hw.2.2 hl hL (by omega) (by decide) dL_law_241 dL_law_242 dL_law_243 dL_law_244 dL_law_245 ?_
  refine l_arg (k := 4) hx hb hX hbl hw.2.2 hl hL (by omega) (by decide) dL_law_246 dL_law_247 dL_law_248 dL_law_249 dL_law_250 ?_
  refine lcM (rest := [.int (mb v)]) (I1' := I1') (J1' := J') (rv := some (.int (mb v))) B hw [.int (xs (i + 1)), .int (xs (i + 2)), .int (xs (i + 3)), .int (xs (i + 4))] clL_27 (r_X9_age l gM kM 17 (mInj_upM B.2.2.2.2.1) kM_ok 0 (xs (i + 1)) (xs (i + 2)) (xs (i + 3)) (xs (i + 4)) I' J' rM (v, I1') e2) ⟨rfl, rfl, Nat.le_of_ble_eq_true rfl, Nat.le_of_ble_eq_true rfl⟩ rfl hl.1 (Nat.le_of_ble_eq_true rfl) hcs dL_law_251 (fun H locs hw => ?_)
  refine W.eq (g2 := F0 m 254 ls [.int (mb v), .int (mb v)]) rfl ?_
  refine lv_icmp_eq (tgt := 939) hx hb dL_law_254 (by decide) (fun _ => ?_) (fun q => absurd rfl q)
  exact kk I1 J R I1' J' H locs hw hS1
set_option maxRecDepth 20000 in
theorem clL_28 : mCV RL 28 RX8 yX8_tooth cX8_tooth 6 (some .boolean) 4 := ⟨mT_at 296 rfl rfl, mT_at 297 rfl rfl, mT_at 298 rfl rfl, mT_at 1 rfl rfl, mT_at 299 rfl rfl, rfl, by decide, by decide, by decide +kernel⟩
set_option maxRecDepth 20000 in
theorem clL_31 : mCV RL 31 RX9 yX9_tooth cX9_tooth 5 (some .boolean) 4 := ⟨mT_at 768 rfl rfl, mT_at 769 rfl rfl, mT_at 770 rfl rfl, mT_at 10 rfl rfl, mT_at 771 rfl rfl, rfl, by decide, by decide, by decide +kernel⟩
set_option maxHeartbeats 4000000 in
set_option maxRecDepth 100000 in
theorem lk_tooth {p : Program} {l : Launch} {e : Env} {s : State} {m : MethodId} {below : List Frame} {meth : Method} {c : Code} {H : Heap} {locs : List Loc} {cells slots : Nat} {Q : State → Prop} {ls : Array Slot} {b0 L i : Nat} {xs : Nat → Int32} {gX gM : mG} {I I' : mI} {J J' : mJ} {R : mR} (B : lFix p m c s b0 gX gM) (hX : va_X b0 L xs s s.heap) (hbl : b0 < s.heap.size) (hL : L ≤ 3072) (hi : i + 6 ≤ L) (hcs : cells ≤ room_1.cells ∧ slots ≤ room_1.slots) (hw : lHp gX gM s I J R I' J' H locs) (hS : Sim I R I') (hl : lv_has ls 4 [(3, .int (nI i)), (2, .ref (gM.2.1 0)), (1, .ref (gX.2.1 0)), (0, .ref b0)]) (kk : lNx p l e s m below meth c cells slots Q b0 gX gM ls) : W p l e room_1 s m #[Value.ref b0] below meth c H locs cells slots Q (F0 m 259 ls []) := by
  have hx := B.1.1
  have hb := B.1.2.1
  obtain ⟨v, I1, I1', e1, e2, hS1⟩ := s_tooth hS J J' (xs (i + 1)) (xs (i + 2)) (xs (i + 3)) (xs (i + 4))
  refine lv_aload_n hx hb dL_law_259 rfl (lv_at hl 2 rfl) ?_
  refine l_arg (k := 1) hx hb hX hbl hw.2.2 hl hL (by omega) (by decide) dL_law_260 dL_law_261 dL_law_262 dL_law_263 dL_law_264 ?_
  refine l_arg (k := 2) hx hb hX hbl hw.2.2 hl hL (by omega) (by decide) dL_law_265 dL_law_266 dL_law_267 dL_law_268 dL_law_269 ?_
  refine l_arg (k := 3) hx hb hX hbl hw.2.2 hl hL (by omega) (by decide) dL_law_270 dL_law_271 dL_law_272 dL_law_273 dL_law_274 ?_
  refine l_arg (k := 4) hx hb hX hbl hw.2.2 hl hL (by omega) (by decide) dL_law_275 dL_law_276 dL_law_277 dL_law_278 dL_law_279 ?_
  refine lcX (rest := []) (I1 := I1) (J1 := J) (R1 := R) (rv := some (.int (mb v))) B hw [.int (xs (i + 1)), .int (xs (i + 2)), .int (xs (i + 3)), .int (xs (i + 4))] clL_28 (r_X8_tooth l gX kX 190 (mInj_up B.2.2.2.1) kX_ok 0 (xs (i + 1)) (xs (i + 2)) (xs (i + 3)) (xs (i + 4)) I J R (v, I1) e1) ⟨rfl, rfl, Nat.le_of_ble_eq_true rfl, Nat.le_of_ble_eq_true rfl⟩ rfl hl.1 (Nat.le_of_ble_eq_true rfl) hcs dL_law_280 (fun H locs hw => ?_)
  refine W.eq (g2 := F0 m 283 ls [.int (mb v)]) rfl ?_
  refine lv_aload_n hx hb dL_law_283 rfl (lv_at hl 1 rfl) ?_
  refine l_arg (k := 1) hx hb hX hbl hw.2.2 hl hL (by omega) (by decide) dL_law_284 dL_law_285 dL_law_286 dL_law_287 dL_law_288 ?_
  refine l_arg (k := 2) hx hb hX hbl hw.2.2 hl hL (by omega) (by decide) dL_law_289 dL_law_290 dL_law_291 dL_law_292 dL_law_293 ?_
  refine l_arg (k := 3) hx hb hX hbl hw.2.2 hl hL (by omega) (by decide) dL_law_294 dL_law_295 dL_law_296 dL_law_297 dL_law_298 ?_
  refine l_arg (k := 4) hx hb hX hbl hw.2.2 hl hL (by omega) (by decide) dL_law_299 dL_law_300 dL_law_301 dL_law_302 dL_law_303 ?_
  refine lcM (rest := [.int (mb v)]) (I1' := I1') (J1' := J') (rv := some (.int (mb v))) B hw [.int (xs (i + 1)), .int (xs (i + 2)), .int (xs (i + 3)), .int (xs (i + 4))] clL_31 (r_X9_tooth l gM kM 17 (mInj_upM B.2.2.2.2.1) kM_ok 0 (xs (i + 1)) (xs (i + 2)) (xs (i + 3)) (xs (i + 4)) I' J' rM (v, I1') e2) ⟨rfl, rfl, Nat.le_of_ble_eq_true rfl, Nat.le_of_ble_eq_true rfl⟩ rfl hl.1 (Nat.le_of_ble_eq_true rfl) hcs dL_law_304 (fun H locs hw => ?_)
  refine W.eq (g2 := F0 m 307 ls [.int (mb v), .int (mb v)]) rfl ?_
  refine lv_icmp_eq (tgt := 939) hx hb dL_law_307 (by decide) (fun _ => ?_) (fun q => absurd rfl q)
  exact kk I1 J R I1' J' H locs hw hS1
set_option maxRecDepth 20000 in
theorem clL_32 : mCV RL 32 RX8 yX8_mark cX8_mark 6 (some .boolean) 4 := ⟨mT_at 300 rfl rfl, mT_at 301 rfl rfl, mT_at 302 rfl rfl, mT_at 1 rfl rfl, mT_at 303 rfl rfl, rfl, by decide, by decide, by decide +kernel⟩
set_option maxRecDepth 20000 in
theorem clL_35 : mCV RL 35 RX9 yX9_mark cX9_mark 5 (some .boolean) 4 := ⟨mT_at 772 rfl rfl, mT_at 773 rfl rfl, mT_at 774 rfl rfl, mT_at 10 rfl rfl, mT_at 775 rfl rfl, rfl, by decide, by decide, by decide +kernel⟩
set_option maxHeartbeats 4000000 in
set_option maxRecDepth 100000 in
theorem lk_mark {p : Program} {l : Launch} {e : Env} {s : State} {m : MethodId} {below : List Frame} {meth : Method} {c : Code} {H : Heap} {locs : List Loc} {cells slots : Nat} {Q : State → Prop} {ls : Array Slot} {b0 L i : Nat} {xs : Nat → Int32} {gX gM : mG} {I I' : mI} {J J' : mJ} {R : mR} (B : lFix p m c s b0 gX gM) (hX : va_X b0 L xs s s.heap) (hbl : b0 < s.heap.size) (hL : L ≤ 3072) (hi : i + 6 ≤ L) (hcs : cells ≤ room_1.cells ∧ slots ≤ room_1.slots) (hw : lHp gX gM s I J R I' J' H locs) (hS : Sim I R I') (hl : lv_has ls 4 [(3, .int (nI i)), (2, .ref (gM.2.1 0)), (1, .ref (gX.2.1 0)), (0, .ref b0)]) (kk : lNx p l e s m below meth c cells slots Q b0 gX gM ls) : W p l e room_1 s m #[Value.ref b0] below meth c H locs cells slots Q (F0 m 312 ls []) := by
  have hx := B.1.1
  have hb := B.1.2.1
  obtain ⟨v, I1, I1', e1, e2, hS1⟩ := s_mark hS J J' (xs (i + 1)) (xs (i + 2)) (xs (i + 3)) (xs (i + 4))
  refine lv_aload_n hx hb dL_law_312 rfl (lv_at hl 2 rfl) ?_
  refine l_arg (k := 1) hx hb hX hbl hw.2.2 hl hL (by omega) (by decide) dL_law_313 dL_law_314 dL_law_315 dL_law_316 dL_law_317 ?_
  refine l_arg (k := 2) hx hb hX hbl hw.2.2 hl hL (by omega) (by decide) dL_law_318 dL_law_319 dL_law_320 dL_law_321 dL_law_322 ?_
  refine l_arg (k := 3) hx hb hX hbl hw.2.2 hl hL (by omega) (by decide) dL_law_323 dL_law_324 dL_law_325 dL_law_326 dL_law_327 ?_
  refine l_arg (k := 4) hx hb hX hbl hw.2.2 hl hL (by omega) (by decide) dL_law_328 dL_law_329 dL_law_330 dL_law_331 dL_law_332 ?_
  refine lcX (rest := []) (I1 := I1) (J1 := J) (R1 := R) (rv := some (.int (mb v))) B hw [.int (xs (i + 1)), .int (xs (i + 2)), .int (xs (i + 3)), .int (xs (i + 4))] clL_32 (r_X8_mark l gX kX 190 (mInj_up B.2.2.2.1) kX_ok 0 (xs (i + 1)) (xs (i + 2)) (xs (i + 3)) (xs (i + 4)) I J R (v, I1) e1) ⟨rfl, rfl, Nat.le_of_ble_eq_true rfl, Nat.le_of_ble_eq_true rfl⟩ rfl hl.1 (Nat.le_of_ble_eq_true rfl) hcs dL_law_333 (fun H locs hw => ?_)
  refine W.eq (g2 := F0 m 336 ls [.int (mb v)]) rfl ?_
  refine lv_aload_n hx hb dL_law_336 rfl (lv_at hl 1 rfl) ?_
  refine l_arg (k := 1) hx hb hX hbl hw.2.2 hl hL (by omega) (by decide) dL_law_337 dL_law_338 dL_law_339 dL_law_340 dL_law_341 ?_
  refine l_arg (k := 2) hx hb hX hbl hw.2.2 hl hL (by omega) (by decide) dL_law_342 dL_law_343 dL_law_344 dL_law_345 dL_law_346 ?_
  refine l_arg (k := 3) hx hb hX hbl hw.2.2 hl hL (by omega) (by decide) dL_law_347 dL_law_348 dL_law_349 dL_law_350 dL_law_351 ?_
  refine l_arg (k := 4) hx hb hX hbl hw.2.2 hl hL (by omega) (by decide) dL_law_352 dL_law_353 dL_law_354 dL_law_355 dL_law_356 ?_
  refine lcM (rest := [.int (mb v)]) (I1' := I1') (J1' := J') (rv := some (.int (mb v))) B hw [.int (xs (i + 1)), .int (xs (i + 2)), .int (xs (i + 3)), .int (xs (i + 4))] clL_35 (r_X9_mark l gM kM 17 (mInj_upM B.2.2.2.2.1) kM_ok 0 (xs (i + 1)) (xs (i + 2)) (xs (i + 3)) (xs (i + 4)) I' J' rM (v, I1') e2) ⟨rfl, rfl, Nat.le_of_ble_eq_true rfl, Nat.le_of_ble_eq_true rfl⟩ rfl hl.1 (Nat.le_of_ble_eq_true rfl) hcs dL_law_357 (fun H locs hw => ?_)
  refine W.eq (g2 := F0 m 360 ls [.int (mb v), .int (mb v)]) rfl ?_
  refine lv_icmp_eq (tgt := 939) hx hb dL_law_360 (by decide) (fun _ => ?_) (fun q => absurd rfl q)
  exact kk I1 J R I1' J' H locs hw hS1
set_option maxRecDepth 20000 in
theorem clL_36 : mCV RL 36 RX8 yX8_tissue cX8_tissue 9 (some .boolean) 5 := ⟨mT_at 304 rfl rfl, mT_at 305 rfl rfl, mT_at 306 rfl rfl, mT_at 1 rfl rfl, mT_at 307 rfl rfl, rfl, by decide, by decide, by decide +kernel⟩
set_option maxRecDepth 20000 in
theorem clL_40 : mCV RL 40 RX9 yX9_tissue cX9_tissue 7 (some .boolean) 5 := ⟨mT_at 776 rfl rfl, mT_at 777 rfl rfl, mT_at 778 rfl rfl, mT_at 10 rfl rfl, mT_at 779 rfl rfl, rfl, by decide, by decide, by decide +kernel⟩
set_option maxHeartbeats 4000000 in
set_option maxRecDepth 100000 in
theorem lk_tissue {p : Program} {l : Launch} {e : Env} {s : State} {m : MethodId} {below : List Frame} {meth : Method} {c : Code} {H : Heap} {locs : List Loc} {cells slots : Nat} {Q : State → Prop} {ls : Array Slot} {b0 L i : Nat} {xs : Nat → Int32} {gX gM : mG} {I I' : mI} {J J' : mJ} {R : mR} (B : lFix p m c s b0 gX gM) (hX : va_X b0 L xs s s.heap) (hbl : b0 < s.heap.size) (hL : L ≤ 3072) (hi : i + 6 ≤ L) (hcs : cells ≤ room_1.cells ∧ slots ≤ room_1.slots) (hw : lHp gX gM s I J R I' J' H locs) (hS : Sim I R I') (hl : lv_has ls 4 [(3, .int (nI i)), (2, .ref (gM.2.1 0)), (1, .ref (gX.2.1 0)), (0, .ref b0)]) (kk : lNx p l e s m below meth c cells slots Q b0 gX gM ls) : W p l e room_1 s m #[Value.ref b0] below meth c H locs cells slots Q (F0 m 365 ls []) := by
  have hx := B.1.1
  have hb := B.1.2.1
  obtain ⟨v, I1, I1', e1, e2, hS1⟩ := s_tissue hS J J' (xs (i + 1)) (xs (i + 2)) (xs (i + 3)) (xs (i + 4)) (xs (i + 5))
  refine lv_aload_n hx hb dL_law_365 rfl (lv_at hl 2 rfl) ?_
  refine l_arg (k := 1) hx hb hX hbl hw.2.2 hl hL (by omega) (by decide) dL_law_366 dL_law_367 dL_law_368 dL_law_369 dL_law_370 ?_
  refine l_arg (k := 2) hx hb hX hbl hw.2.2 hl hL (by omega) (by decide) dL_law_371 dL_law_372 dL_law_373 dL_law_374 dL_law_375 ?_
  refine l_arg (k := 3) hx hb hX hbl hw.2.2 hl hL (by omega) (by decide) dL_law_376 dL_law_377 dL_law_378 dL_law_379 dL_law_380 ?_
  refine l_arg (k := 4) hx hb hX hbl hw.2.2 hl hL (by omega) (by decide) dL_law_381 dL_law_382 dL_law_383 dL_law_384 dL_law_385 ?_
  refine l_arg (k := 5) hx hb hX hbl hw.2.2 hl hL (by omega) (by decide) dL_law_386 dL_law_387 dL_law_388 dL_law_389 dL_law_390 ?_
  refine lcX (rest := []) (I1 := I1) (J1 := J) (R1 := R) (rv := some (.int (mb v))) B hw [.int (xs (i + 1)), .int (xs (i + 2)), .int (xs (i + 3)), .int (xs (i + 4)), .int (xs (i + 5))] clL_36 (r_X8_tissue l gX kX 190 (mInj_up B.2.2.2.1) kX_ok 0 (xs (i + 1)) (xs (i + 2)) (xs (i + 3)) (xs (i + 4)) (xs (i + 5)) I J R (v, I1) e1) ⟨rfl, rfl, Nat.le_of_ble_eq_true rfl, Nat.le_of_ble_eq_true rfl⟩ rfl hl.1 (Nat.le_of_ble_eq_true rfl) hcs dL_law_391 (fun H locs hw => ?_)
  refine W.eq (g2 := F0 m 394 ls [.int (mb v)]) rfl ?_
  refine lv_aload_n hx hb dL_law_394 rfl (lv_at hl 1 rfl) ?_
  refine l_arg (k := 1) hx hb hX hbl hw.2.2 hl hL (by omega) (by decide) dL_law_395 dL_law_396 dL_law_397 dL_law_398 dL_law_399 ?_
  refine l_arg (k := 2) hx hb hX hbl hw.2.2 hl hL (by omega) (by decide) dL_law_400 dL_law_401 dL_law_402 dL_law_403 dL_law_404 ?_
  refine l_arg (k := 3) hx hb hX hbl hw.2.2 hl hL (by omega) (by decide) dL_law_405 dL_law_406 dL_law_407 dL_law_408 dL_law_409 ?_
  refine l_arg (k := 4) hx hb hX hbl hw.2.2 hl hL (by omega) (by decide) dL_law_410 dL_law_411 dL_law_412 dL_law_413 dL_law_414 ?_
  refine l_arg (k := 5) hx hb hX hbl hw.2.2 hl hL (by omega) (by decide) dL_law_415 dL_law_416 dL_law_417 dL_law_418 dL_law_419 ?_
  refine lcM (rest := [.int (mb v)]) (I1' := I1') (J1' := J') (rv := some (.int (mb v))) B hw [.int (xs (i + 1)), .int (xs (i + 2)), .int (xs (i + 3)), .int (xs (i + 4)), .int (xs (i + 5))] clL_40 (r_X9_tissue l gM kM 17 (mInj_upM B.2.2.2.2.1) kM_ok 0 (xs (i + 1)) (xs (i + 2)) (xs (i + 3)) (xs (i + 4)) (xs (i + 5)) I' J' rM (v, I1') e2) ⟨rfl, rfl, Nat.le_of_ble_eq_true rfl, Nat.le_of_ble_eq_true rfl⟩ rfl hl.1 (Nat.le_of_ble_eq_true rfl) hcs dL_law_420 (fun H locs hw => ?_)
  refine W.eq (g2 := F0 m 423 ls [.int (mb v), .int (mb v)]) rfl ?_
  refine lv_icmp_eq (tgt := 939) hx hb dL_law_423 (by decide) (fun _ => ?_) (fun q => absurd rfl q)
  exact kk I1 J R I1' J' H locs hw hS1
set_option maxRecDepth 20000 in
theorem clL_41 : mCV RL 41 RX8 yX8_pieces cX8_pieces 4 (some .boolean) 2 := ⟨mT_at 314 rfl rfl, mT_at 315 rfl rfl, mT_at 316 rfl rfl, mT_at 1 rfl rfl, mT_at 317 rfl rfl, rfl, by decide, by decide, by decide +kernel⟩
set_option maxRecDepth 20000 in
theorem clL_45 : mCV RL 45 RX9 yX9_pieces cX9_pieces 5 (some .boolean) 2 := ⟨mT_at 782 rfl rfl, mT_at 783 rfl rfl, mT_at 784 rfl rfl, mT_at 10 rfl rfl, mT_at 785 rfl rfl, rfl, by decide, by decide, by decide +kernel⟩
set_option maxHeartbeats 4000000 in
set_option maxRecDepth 100000 in
theorem lk_pieces {p : Program} {l : Launch} {e : Env} {s : State} {m : MethodId} {below : List Frame} {meth : Method} {c : Code} {H : Heap} {locs : List Loc} {cells slots : Nat} {Q : State → Prop} {ls : Array Slot} {b0 L i : Nat} {xs : Nat → Int32} {gX gM : mG} {I I' : mI} {J J' : mJ} {R : mR} (B : lFix p m c s b0 gX gM) (hX : va_X b0 L xs s s.heap) (hbl : b0 < s.heap.size) (hL : L ≤ 3072) (hi : i + 6 ≤ L) (hcs : cells ≤ room_1.cells ∧ slots ≤ room_1.slots) (hw : lHp gX gM s I J R I' J' H locs) (hS : Sim I R I') (hl : lv_has ls 4 [(3, .int (nI i)), (2, .ref (gM.2.1 0)), (1, .ref (gX.2.1 0)), (0, .ref b0)]) (kk : lNx p l e s m below meth c cells slots Q b0 gX gM ls) : W p l e room_1 s m #[Value.ref b0] below meth c H locs cells slots Q (F0 m 428 ls []) := by
  have hx := B.1.1
  have hb := B.1.2.1
  obtain ⟨v, I1, I1', e1, e2, hS1⟩ := s_pieces hS J J' (xs (i + 1)) (xs (i + 2))
  refine lv_aload_n hx hb dL_law_428 rfl (lv_at hl 2 rfl) ?_
  refine l_arg (k := 1) hx hb hX hbl hw.2.2 hl hL (by omega) (by decide) dL_law_429 dL_law_430 dL_law_431 dL_law_432 dL_law_433 ?_
  refine l_arg (k := 2) hx hb hX hbl hw.2.2 hl hL (by omega) (by decide) dL_law_434 dL_law_435 dL_law_436 dL_law_437 dL_law_438 ?_
  refine lcX (rest := []) (I1 := I1) (J1 := J) (R1 := R) (rv := some (.int (mb v))) B hw [.int (xs (i + 1)), .int (xs (i + 2))] clL_41 (r_X8_pieces l gX kX 190 (mInj_up B.2.2.2.1) kX_ok 0 (xs (i + 1)) (xs (i + 2)) I J R (v, I1) e1) ⟨rfl, rfl, Nat.le_of_ble_eq_true rfl, Nat.le_of_ble_eq_true rfl⟩ rfl hl.1 (Nat.le_of_ble_eq_true rfl) hcs dL_law_439 (fun H locs hw => ?_)
  refine W.eq (g2 := F0 m 442 ls [.int (mb v)]) rfl ?_
  refine lv_aload_n hx hb dL_law_442 rfl (lv_at hl 1 rfl) ?_
  refine l_arg (k := 1) hx hb hX hbl hw.2.2 hl hL (by omega) (by decide) dL_law_443 dL_law_444 dL_law_445 dL_law_446 dL_law_447 ?_
  refine l_arg (k := 2) hx hb hX hbl hw.2.2 hl hL (by omega) (by decide) dL_law_448 dL_law_449 dL_law_450 dL_law_451 dL_law_452 ?_
  refine lcM (rest := [.int (mb v)]) (I1' := I1') (J1' := J') (rv := some (.int (mb v))) B hw [.int (xs (i + 1)), .int (xs (i + 2))] clL_45 (r_X9_pieces l gM kM 17 (mInj_upM B.2.2.2.2.1) kM_ok 0 (xs (i + 1)) (xs (i + 2)) I' J' rM (v, I1') e2) ⟨rfl, rfl, Nat.le_of_ble_eq_true rfl, Nat.le_of_ble_eq_true rfl⟩ rfl hl.1 (Nat.le_of_ble_eq_true rfl) hcs dL_law_453 (fun H locs hw => ?_)
  refine W.eq (g2 := F0 m 456 ls [.int (mb v), .int (mb v)]) rfl ?_
  refine lv_icmp_eq (tgt := 939) hx hb dL_law_456 (by decide) (fun _ => ?_) (fun q => absurd rfl q)
  exact kk I1 J R I1' J' H locs hw hS1
set_option maxRecDepth 20000 in
theorem clL_46 : mCV RL 46 RX8 yX8_unfit cX8_unfit 5 (some .int) 2 := ⟨mT_at 326 rfl rfl, mT_at 327 rfl rfl, mT_at 328 rfl rfl, mT_at 1 rfl rfl, mT_at 329 rfl rfl, rfl, by decide, by decide, by decide +kernel⟩
set_option maxRecDepth 20000 in
theorem clL_50 : mCV RL 50 RX9 yX9_unfit cX9_unfit 6 (some .int) 2 := ⟨mT_at 790 rfl rfl, mT_at 791 rfl rfl, mT_at 792 rfl rfl, mT_at 10 rfl rfl, mT_at 793 rfl rfl, rfl, by decide, by decide, by decide +kernel⟩
set_option maxHeartbeats 4000000 in
set_option maxRecDepth 100000 in
theorem lk_unfit {p : Program} {l : Launch} {e : Env} {s : State} {m : MethodId} {below : List Frame} {meth : Method} {c : Code} {H : Heap} {locs : List Loc} {cells slots : Nat} {Q : State → Prop} {ls : Array Slot} {b0 L i : Nat} {xs : Nat → Int32} {gX gM : mG} {I I' : mI} {J J' : mJ} {R : mR} (B : lFix p m c s b0 gX gM) (hX : va_X b0 L xs s s.heap) (hbl : b0 < s.heap.size) (hL : L ≤ 3072) (hi : i + 6 ≤ L) (hcs : cells ≤ room_1.cells ∧ slots ≤ room_1.slots) (hw : lHp gX gM s I J R I' J' H locs) (hS : Sim I R I') (hl : lv_has ls 4 [(3, .int (nI i)), (2, .ref (gM.2.1 0)), (1, .ref (gX.2.1 0)), (0, .ref b0)]) (kk : lNx p l e s m below meth c cells slots Q b0 gX gM ls) : W p l e room_1 s m #[Value.ref b0] below meth c H locs cells slots Q (F0 m 461 ls []) := by
  have hx := B.1.1
  have hb := B.1.2.1
  obtain ⟨v, I1, e1, e2, hS1⟩ := s_unfit hS J J' (xs (i + 1)) (xs (i + 2))
  refine lv_aload_n hx hb dL_law_461 rfl (lv_at hl 2 rfl) ?_
  refine l_arg (k := 1) hx hb hX hbl hw.2.2 hl hL (by omega) (by decide) dL_law_462 dL_law_463 dL_law_464 dL_law_465 dL_law_466 ?_
  refine l_arg (k := 2) hx hb hX hbl hw.2.2 hl hL (by omega) (by decide) dL_law_467 dL_law_468 dL_law_469 dL_law_470 dL_law_471 ?_
  refine lcX (rest := []) (I1 := I1) (J1 := J) (R1 := R) (rv := some (.int v)) B hw [.int (xs (i + 1)), .int (xs (i + 2))] clL_46 (r_X8_unfit l gX kX 190 (mInj_up B.2.2.2.1) kX_ok 0 (xs (i + 1)) (xs (i + 2)) I J R (v, I1) e1) ⟨rfl, rfl, Nat.le_of_ble_eq_true rfl, Nat.le_of_ble_eq_true rfl⟩ rfl hl.1 (Nat.le_of_ble_eq_true rfl) hcs dL_law_472 (fun H locs hw => ?_)
  refine W.eq (g2 := F0 m 475 ls [.int v]) rfl ?_
  refine lv_aload_n hx hb dL_law_475 rfl (lv_at hl 1 rfl) ?_
  refine l_arg (k := 1) hx hb hX hbl hw.2.2 hl hL (by omega) (by decide) dL_law_476 dL_law_477 dL_law_478 dL_law_479 dL_law_480 ?_
  refine l_arg (k := 2) hx hb hX hbl hw.2.2 hl hL (by omega) (by decide) dL_law_481 dL_law_482 dL_law_483 dL_law_484 dL_law_485 ?_
  refine lcM (rest := [.int v]) (I1' := I') (J1' := J') (rv := some (.int v)) B hw [.int (xs (i + 1)), .int (xs (i + 2))] clL_50 (r_X9_unfit l gM kM 17 (mInj_upM B.2.2.2.2.1) kM_ok 0 (xs (i + 1)) (xs (i + 2)) I' J' rM v e2) ⟨rfl, rfl, Nat.le_of_ble_eq_true rfl, Nat.le_of_ble_eq_true rfl⟩ rfl hl.1 (Nat.le_of_ble_eq_true rfl) hcs dL_law_486 (fun H locs hw => ?_)
  refine W.eq (g2 := F0 m 489 ls [.int v, .int v]) rfl ?_
  refine lv_icmp_eq (tgt := 939) hx hb dL_law_489 (by decide) (fun _ => ?_) (fun q => absurd rfl q)
  exact kk I1 J R I' J' H locs hw hS1
set_option maxRecDepth 20000 in
theorem clL_51 : mCV RL 51 RX8 yX8_join cX8_join 3 (some .boolean) 2 := ⟨mT_at 363 rfl rfl, mT_at 364 rfl rfl, mT_at 365 rfl rfl, mT_at 1 rfl rfl, mT_at 366 rfl rfl, rfl, by decide, by decide, by decide +kernel⟩
set_option maxRecDepth 20000 in
theorem clL_54 : mCV RL 54 RX9 yX9_join cX9_join 6 (some .boolean) 2 := ⟨mT_at 805 rfl rfl, mT_at 806 rfl rfl, mT_at 807 rfl rfl, mT_at 10 rfl rfl, mT_at 808 rfl rfl, rfl, by decide, by decide, by decide +kernel⟩
set_option maxHeartbeats 4000000 in
set_option maxRecDepth 100000 in
theorem lk_join {p : Program} {l : Launch} {e : Env} {s : State} {m : MethodId} {below : List Frame} {meth : Method} {c : Code} {H : Heap} {locs : List Loc} {cells slots : Nat} {Q : State → Prop} {ls : Array Slot} {b0 L i : Nat} {xs : Nat → Int32} {gX gM : mG} {I I' : mI} {J J' : mJ} {R : mR} (B : lFix p m c s b0 gX gM) (hX : va_X b0 L xs s s.heap) (hbl : b0 < s.heap.size) (hL : L ≤ 3072) (hi : i + 6 ≤ L) (hcs : cells ≤ room_1.cells ∧ slots ≤ room_1.slots) (hw : lHp gX gM s I J R I' J' H locs) (hS : Sim I R I') (hl : lv_has ls 4 [(3, .int (nI i)), (2, .ref (gM.2.1 0)), (1, .ref (gX.2.1 0)), (0, .ref b0)]) (kk : lNx p l e s m below meth c cells slots Q b0 gX gM ls) : W p l e room_1 s m #[Value.ref b0] below meth c H locs cells slots Q (F0 m 494 ls []) := by
  have hx := B.1.1
  have hb := B.1.2.1
  obtain ⟨v, I1, I1', e1, e2, hS1⟩ := s_join hS J J' (xs (i + 1)) (xs (i + 2))
  refine lv_aload_n hx hb dL_law_494 rfl (lv_at hl 2 rfl) ?_
  refine l_arg (k := 1) hx hb hX hbl hw.2.2 hl hL (by omega) (by decide) dL_law_495 dL_law_496 dL_law_497 dL_law_498 dL_law_499 ?_
  refine l_arg (k := 2) hx hb hX hbl hw.2.2 hl hL (by omega) (by decide) dL_law_500 dL_law_501 dL_law_502 dL_law_503 dL_law_504 ?_
  refine lcX (rest := []) (I1 := I1) (J1 := J) (R1 := R) (rv := some (.int (mb v))) B hw [.int (xs (i + 1)), .int (xs (i + 2))] clL_51 (r_X8_join l gX kX 190 (mInj_up B.2.2.2.1) kX_ok 0 (xs (i + 1)) (xs (i + 2)) I J R (v, I1) e1) ⟨rfl, rfl, Nat.le_of_ble_eq_true rfl, Nat.le_of_ble_eq_true rfl⟩ rfl hl.1 (Nat.le_of_ble_eq_true rfl) hcs dL_law_505 (fun H locs hw => ?_)
  refine W.eq (g2 := F0 m 508 ls [.int (mb v)]) rfl ?_
  refine lv_aload_n hx hb dL_law_508 rfl (lv_at hl 1 rfl) ?_
  refine l_arg (k := 1) hx hb hX hbl hw.2.2 hl hL (by omega) (by decide) dL_law_509 dL_law_510 dL_law_511 dL_law_512 dL_law_513 ?_
  refine l_arg (k := 2) hx hb hX hbl hw.2.2 hl hL (by omega) (by decide) dL_law_514 dL_law_515 dL_law_516 dL_law_517 dL_law_518 ?_
  refine lcM (rest := [.int (mb v)]) (I1' := I1') (J1' := J') (rv := some (.int (mb v))) B hw [.int (xs (i + 1)), .int (xs (i + 2))] clL_54 (r_X9_join l gM kM 17 (mInj_upM B.2.2.2.2.1) kM_ok 0 (xs (i + 1)) (xs (i + 2)) I' J' rM (v, I1') e2) ⟨rfl, rfl, Nat.le_of_ble_eq_true rfl, Nat.le_of_ble_eq_true rfl⟩ rfl hl.1 (Nat.le_of_ble_eq_true rfl) hcs dL_law_519 (fun H locs hw => ?_)
  refine W.eq (g2 := F0 m 522 ls [.int (mb v), .int (mb v)]) rfl ?_
  refine lv_icmp_eq (tgt := 939) hx hb dL_law_522 (by decide) (fun _ => ?_) (fun q => absurd rfl q)
  exact kk I1 J R I1' J' H locs hw hS1
set_option maxRecDepth 20000 in
theorem clL_55 : mCV RL 55 RX8 yX8_body cX8_body 2 (some .int) 1 := ⟨mT_at 374 rfl rfl, mT_at 375 rfl rfl, mT_at 376 rfl rfl, mT_at 1 rfl rfl, mT_at 377 rfl rfl, rfl, by decide, by decide, by decide +kernel⟩
set_option maxRecDepth 20000 in
theorem clL_58 : mCV RL 58 RX9 yX9_body cX9_body 2 (some .int) 1 := ⟨mT_at 810 rfl rfl, mT_at 811 rfl rfl, mT_at 812 rfl rfl, mT_at 10 rfl rfl, mT_at 813 rfl rfl, rfl, by decide, by decide, by decide +kernel⟩
set_option maxHeartbeats 4000000 in
set_option maxRecDepth 100000 in
theorem lk_body {p : Program} {l : Launch} {e : Env} {s : State} {m : MethodId} {below : List Frame} {meth : Method} {c : Code} {H : Heap} {locs : List Loc} {cells slots : Nat} {Q : State → Prop} {ls : Array Slot} {b0 L i : Nat} {xs : Nat → Int32} {gX gM : mG} {I I' : mI} {J J' : mJ} {R : mR} (B : lFix p m c s b0 gX gM) (hX : va_X b0 L xs s s.heap) (hbl : b0 < s.heap.size) (hL : L ≤ 3072) (hi : i + 6 ≤ L) (hcs : cells ≤ room_1.cells ∧ slots ≤ room_1.slots) (hw : lHp gX gM s I J R I' J' H locs) (hS : Sim I R I') (hl : lv_has ls 4 [(3, .int (nI i)), (2, .ref (gM.2.1 0)), (1, .ref (gX.2.1 0)), (0, .ref b0)]) (kk : lNx p l e s m below meth c cells slots Q b0 gX gM ls) : W p l e room_1 s m #[Value.ref b0] below meth c H locs cells slots Q (F0 m 527 ls []) := by
  have hx := B.1.1
  have hb := B.1.2.1
  obtain ⟨v, e1, e2⟩ := s_body hS J J' (xs (i + 1))
  refine lv_aload_n hx hb dL_law_527 rfl (lv_at hl 2 rfl) ?_
  refine l_arg (k := 1) hx hb hX hbl hw.2.2 hl hL (by omega) (by decide) dL_law_528 dL_law_529 dL_law_530 dL_law_531 dL_law_532 ?_
  refine lcX (rest := []) (I1 := I) (J1 := J) (R1 := R) (rv := some (.int v)) B hw [.int (xs (i + 1))] clL_55 (r_X8_body l gX kX 190 (mInj_up B.2.2.2.1) kX_ok 0 (xs (i + 1)) I J R v e1) ⟨rfl, rfl, Nat.le_of_ble_eq_true rfl, Nat.le_of_ble_eq_true rfl⟩ rfl hl.1 (Nat.le_of_ble_eq_true rfl) hcs dL_law_533 (fun H locs hw => ?_)
  refine W.eq (g2 := F0 m 536 ls [.int v]) rfl ?_
  refine lv_aload_n hx hb dL_law_536 rfl (lv_at hl 1 rfl) ?_
  refine l_arg (k := 1) hx hb hX hbl hw.2.2 hl hL (by omega) (by decide) dL_law_537 dL_law_538 dL_law_539 dL_law_540 dL_law_541 ?_
  refine lcM (rest := [.int v]) (I1' := I') (J1' := J') (rv := some (.int v)) B hw [.int (xs (i + 1))] clL_58 (r_X9_body l gM kM 17 (mInj_upM B.2.2.2.2.1) kM_ok 0 (xs (i + 1)) I' J' rM v e2) ⟨rfl, rfl, Nat.le_of_ble_eq_true rfl, Nat.le_of_ble_eq_true rfl⟩ rfl hl.1 (Nat.le_of_ble_eq_true rfl) hcs dL_law_542 (fun H locs hw => ?_)
  refine W.eq (g2 := F0 m 545 ls [.int v, .int v]) rfl ?_
  refine lv_icmp_eq (tgt := 939) hx hb dL_law_545 (by decide) (fun _ => ?_) (fun q => absurd rfl q)
  exact kk I J R I' J' H locs hw hS
set_option maxRecDepth 20000 in
theorem clL_59 : mCV RL 59 RX8 yX8_told cX8_told 4 (some .int) 2 := ⟨mT_at 378 rfl rfl, mT_at 379 rfl rfl, mT_at 380 rfl rfl, mT_at 1 rfl rfl, mT_at 381 rfl rfl, rfl, by decide, by decide, by decide +kernel⟩
set_option maxRecDepth 20000 in
theorem clL_62 : mCV RL 62 RX9 yX9_told cX9_told 4 (some .int) 2 := ⟨mT_at 814 rfl rfl, mT_at 815 rfl rfl, mT_at 816 rfl rfl, mT_at 10 rfl rfl, mT_at 817 rfl rfl, rfl, by decide, by decide, by decide +kernel⟩
set_option maxHeartbeats 4000000 in
set_option maxRecDepth 100000 in
theorem lk_told {p : Program} {l : Launch} {e : Env} {s : State} {m : MethodId} {below : List Frame} {meth : Method} {c : Code} {H : Heap} {locs : List Loc} {cells slots : Nat} {Q : State → Prop} {ls : Array Slot} {b0 L i : Nat} {xs : Nat → Int32} {gX gM : mG} {I I' : mI} {J J' : mJ} {R : mR} (B : lFix p m c s b0 gX gM) (hX : va_X b0 L xs s s.heap) (hbl : b0 < s.heap.size) (hL : L ≤ 3072) (hi : i + 6 ≤ L) (hcs : cells ≤ room_1.cells ∧ slots ≤ room_1.slots) (hw : lHp gX gM s I J R I' J' H locs) (hS : Sim I R I') (hl : lv_has ls 4 [(3, .int (nI i)), (2, .ref (gM.2.1 0)), (1, .ref (gX.2.1 0)), (0, .ref b0)]) (kk : lNx p l e s m below meth c cells slots Q b0 gX gM ls) : W p l e room_1 s m #[Value.ref b0] below meth c H locs cells slots Q (F0 m 550 ls []) := by
  have hx := B.1.1
  have hb := B.1.2.1
  obtain ⟨v, I1, e1, e2, hS1⟩ := s_told hS J J' (xs (i + 1)) (xs (i + 2))
  refine lv_aload_n hx hb dL_law_550 rfl (lv_at hl 2 rfl) ?_
  refine l_arg (k := 1) hx hb hX hbl hw.2.2 hl hL (by omega) (by decide) dL_law_551 dL_law_552 dL_law_553 dL_law_554 dL_law_555 ?_
  refine l_arg (k := 2) hx hb hX hbl hw.2.2 hl hL (by omega) (by decide) dL_law_556 dL_law_557 dL_law_558 dL_law_559 dL_law_560 ?_
  refine lcX (rest := []) (I1 := I1) (J1 := J) (R1 := R) (rv := some (.int v)) B hw [.int (xs (i + 1)), .int (xs (i + 2))] clL_59 (r_X8_told l gX kX 190 (mInj_up B.2.2.2.1) kX_ok 0 (xs (i + 1)) (xs (i + 2)) I J R (v, I1) e1) ⟨rfl, rfl, Nat.le_of_ble_eq_true rfl, Nat.le_of_ble_eq_true rfl⟩ rfl hl.1 (Nat.le_of_ble_eq_true rfl) hcs dL_law_561 (fun H locs hw => ?_)
  refine W.eq (g2 := F0 m 564 ls [.int v]) rfl ?_
  refine lv_aload_n hx hb dL_law_564 rfl (lv_at hl 1 rfl) ?_
  refine l_arg (k := 1) hx hb hX hbl hw.2.2 hl hL (by omega) (by decide) dL_law_565 dL_law_566 dL_law_567 dL_law_568 dL_law_569 ?_
  refine l_arg (k := 2) hx hb hX hbl hw.2.2 hl hL (by omega) (by decide) dL_law_570 dL_law_571 dL_law_572 dL_law_573 dL_law_574 ?_
  refine lcM (rest := [.int v]) (I1' := I') (J1' := J') (rv := some (.int v)) B hw [.int (xs (i + 1)), .int (xs (i + 2))] clL_62 (r_X9_told l gM kM 17 (mInj_upM B.2.2.2.2.1) kM_ok 0 (xs (i + 1)) (xs (i + 2)) I' J' rM v e2) ⟨rfl, rfl, Nat.le_of_ble_eq_true rfl, Nat.le_of_ble_eq_true rfl⟩ rfl hl.1 (Nat.le_of_ble_eq_true rfl) hcs dL_law_575 (fun H locs hw => ?_)
  refine W.eq (g2 := F0 m 578 ls [.int v, .int v]) rfl ?_
  refine lv_icmp_eq (tgt := 939) hx hb dL_law_578 (by decide) (fun _ => ?_) (fun q => absurd rfl q)
  exact kk I1 J R I' J' H locs hw hS1
set_option maxRecDepth 20000 in
theorem clL_63 : mCV RL 63 RX8 yX8_shut cX8_shut 5 (some .int) 2 := ⟨mT_at 391 rfl rfl, mT_at 392 rfl rfl, mT_at 393 rfl rfl, mT_at 1 rfl rfl, mT_at 394 rfl rfl, rfl, by decide, by decide, by decide +kernel⟩
set_option maxRecDepth 20000 in
theorem clL_66 : mCV RL 66 RX9 yX9_shut cX9_shut 3 (some .int) 2 := ⟨mT_at 825 rfl rfl, mT_at 826 rfl rfl, mT_at 827 rfl rfl, mT_at 10 rfl rfl, mT_at 828 rfl rfl, rfl, by decide, by decide, by decide +kernel⟩
set_option maxHeartbeats 4000000 in
set_option maxRecDepth 100000 in
theorem lk_shut {p : Program} {l : Launch} {e : Env} {s : State} {m : MethodId} {below : List Frame} {meth : Method} {c : Code} {H : Heap} {locs : List Loc} {cells slots : Nat} {Q : State → Prop} {ls : Array Slot} {b0 L i : Nat} {xs : Nat → Int32} {gX gM : mG} {I I' : mI} {J J' : mJ} {R : mR} (B : lFix p m c s b0 gX gM) (hX : va_X b0 L xs s s.heap) (hbl : b0 < s.heap.size) (hL : L ≤ 3072) (hi : i + 6 ≤ L) (hcs : cells ≤ room_1.cells ∧ slots ≤ room_1.slots) (hw : lHp gX gM s I J R I' J' H locs) (hS : Sim I R I') (hl : lv_has ls 4 [(3, .int (nI i)), (2, .ref (gM.2.1 0)), (1, .ref (gX.2.1 0)), (0, .ref b0)]) (kk : lNx p l e s m below meth c cells slots Q b0 gX gM ls) : W p l e room_1 s m #[Value.ref b0] below meth c H locs cells slots Q (F0 m 583 ls []) := by
  have hx := B.1.1
  have hb := B.1.2.1
  obtain ⟨v, I1, e1, e2, hS1⟩ := s_shut hS J J' (xs (i + 1)) (xs (i + 2))
  refine lv_aload_n hx hb dL_law_583 rfl (lv_at hl 2 rfl) ?_
  refine l_arg (k := 1) hx hb hX hbl hw.2.2 hl hL (by omega) (by decide) dL_law_584 dL_law_585 dL_law_586 dL_law_587 dL_law_588 ?_
  refine l_arg (k := 2) hx hb hX hbl hw.2.2 hl hL (by omega) (by decide) dL_law_589 dL_law_590 dL_law_591 dL_law_592 dL_law_593 ?_
  refine lcX (rest := []) (I1 := I1) (J1 := J) (R1 := R) (rv := some (.int v)) B hw [.int (xs (i + 1)), .int (xs (i + 2))] clL_63 (r_X8_shut l gX kX 190 (mInj_up B.2.2.2.1) kX_ok 0 (xs (i + 1)) (xs (i + 2)) I J R (v, I1) e1) ⟨rfl, rfl, Nat.le_of_ble_eq_true rfl, Nat.le_of_ble_eq_true rfl⟩ rfl hl.1 (Nat.le_of_ble_eq_true rfl) hcs dL_law_594 (fun H locs hw => ?_)
  refine W.eq (g2 := F0 m 597 ls [.int v]) rfl ?_
  refine lv_aload_n hx hb dL_law_597 rfl (lv_at hl 1 rfl) ?_
  refine l_arg (k := 1) hx hb hX hbl hw.2.2 hl hL (by omega) (by decide) dL_law_598 dL_law_599 dL_law_600 dL_law_601 dL_law_602 ?_
  refine l_arg (k := 2) hx hb hX hbl hw.2.2 hl hL (by omega) (by decide) dL_law_603 dL_law_604 dL_law_605 dL_law_606 dL_law_607 ?_
  refine lcM (rest := [.int v]) (I1' := I') (J1' := J') (rv := some (.int v)) B hw [.int (xs (i + 1)), .int (xs (i + 2))] clL_66 (r_X9_shut l gM kM 17 (mInj_upM B.2.2.2.2.1) kM_ok 0 (xs (i + 1)) (xs (i + 2)) I' J' rM v e2) ⟨rfl, rfl, Nat.le_of_ble_eq_true rfl, Nat.le_of_ble_eq_true rfl⟩ rfl hl.1 (Nat.le_of_ble_eq_true rfl) hcs dL_law_608 (fun H locs hw => ?_)
  refine W.eq (g2 := F0 m 611 ls [.int v, .int v]) rfl ?_
  refine lv_icmp_eq (tgt := 939) hx hb dL_law_611 (by decide) (fun _ => ?_) (fun q => absurd rfl q)
  exact kk I1 J R I' J' H locs hw hS1
set_option maxRecDepth 20000 in
theorem clL_67 : mCV RL 67 RX8 yX8_points cX8_points 5 (some .int) 2 := ⟨mT_at 417 rfl rfl, mT_at 418 rfl rfl, mT_at 419 rfl rfl, mT_at 1 rfl rfl, mT_at 420 rfl rfl, rfl, by decide, by decide, by decide +kernel⟩
set_option maxRecDepth 20000 in
theorem clL_70 : mCV RL 70 RX9 yX9_points cX9_points 3 (some .int) 2 := ⟨mT_at 844 rfl rfl, mT_at 845 rfl rfl, mT_at 846 rfl rfl, mT_at 10 rfl rfl, mT_at 847 rfl rfl, rfl, by decide, by decide, by decide +kernel⟩
set_option maxHeartbeats 4000000 in
set_option maxRecDepth 100000 in
theorem lk_points {p : Program} {l : Launch} {e : Env} {s : State} {m : MethodId} {below : List Frame} {meth : Method} {c : Code} {H : Heap} {locs : List Loc} {cells slots : Nat} {Q : State → Prop} {ls : Array Slot} {b0 L i : Nat} {xs : Nat → Int32} {gX gM : mG} {I I' : mI} {J J' : mJ} {R : mR} (B : lFix p m c s b0 gX gM) (hX : va_X b0 L xs s s.heap) (hbl : b0 < s.heap.size) (hL : L ≤ 3072) (hi : i + 6 ≤ L) (hcs : cells ≤ room_1.cells ∧ slots ≤ room_1.slots) (hw : lHp gX gM s I J R I' J' H locs) (hS : Sim I R I') (hl : lv_has ls 4 [(3, .int (nI i)), (2, .ref (gM.2.1 0)), (1, .ref (gX.2.1 0)), (0, .ref b0)]) (kk : lNx p l e s m below meth c cells slots Q b0 gX gM ls) : W p l e room_1 s m #[Value.ref b0] below meth c H locs cells slots Q (F0 m 616 ls []) := by
  have hx := B.1.1
  have hb := B.1.2.1
  obtain ⟨v, I1, e1, e2, hS1⟩ := s_points hS J J' (xs (i + 1)) (xs (i + 2))
  refine lv_aload_n hx hb dL_law_616 rfl (lv_at hl 2 rfl) ?_
  refine l_arg (k := 1) hx hb hX hbl hw.2.2 hl hL (by omega) (by decide) dL_law_617 dL_law_618 dL_law_619 dL_law_620 dL_law_621 ?_
  refine l_arg (k := 2) hx hb hX hbl hw.2.2 hl hL (by omega) (by decide) dL_law_622 dL_law_623 dL_law_624 dL_law_625 dL_law_626 ?_
  refine lcX (rest := []) (I1 := I1) (J1 := J) (R1 := R) (rv := some (.int v)) B hw [.int (xs (i + 1)), .int (xs (i + 2))] clL_67 (r_X8_points l gX kX 190 (mInj_up B.2.2.2.1) kX_ok 0 (xs (i + 1)) (xs (i + 2)) I J R (v, I1) e1) ⟨rfl, rfl, Nat.le_of_ble_eq_true rfl, Nat.le_of_ble_eq_true rfl⟩ rfl hl.1 (Nat.le_of_ble_eq_true rfl) hcs dL_law_627 (fun H locs hw => ?_)
  refine W.eq (g2 := F0 m 630 ls [.int v]) rfl ?_
  refine lv_aload_n hx hb dL_law_630 rfl (lv_at hl 1 rfl) ?_
  refine l_arg (k := 1) hx hb hX hbl hw.2.2 hl hL (by omega) (by decide) dL_law_631 dL_law_632 dL_law_633 dL_law_634 dL_law_635 ?_
  refine l_arg (k := 2) hx hb hX hbl hw.2.2 hl hL (by omega) (by decide) dL_law_636 dL_law_637 dL_law_638 dL_law_639 dL_law_640 ?_
  refine lcM (rest := [.int v]) (I1' := I') (J1' := J') (rv := some (.int v)) B hw [.int (xs (i + 1)), .int (xs (i + 2))] clL_70 (r_X9_points l gM kM 17 (mInj_upM B.2.2.2.2.1) kM_ok 0 (xs (i + 1)) (xs (i + 2)) I' J' rM v e2) ⟨rfl, rfl, Nat.le_of_ble_eq_true rfl, Nat.le_of_ble_eq_true rfl⟩ rfl hl.1 (Nat.le_of_ble_eq_true rfl) hcs dL_law_641 (fun H locs hw => ?_)
  refine W.eq (g2 := F0 m 644 ls [.int v, .int v]) rfl ?_
  refine lv_icmp_eq (tgt := 939) hx hb dL_law_644 (by decide) (fun _ => ?_) (fun q => absurd rfl q)
  exact kk I1 J R I' J' H locs hw hS1
set_option maxRecDepth 20000 in
theorem clL_71 : mCV RL 71 RX8 yX8_pairing cX8_pairing 3 (some .int) 1 := ⟨mT_at 440 rfl rfl, mT_at 441 rfl rfl, mT_at 442 rfl rfl, mT_at 1 rfl rfl, mT_at 443 rfl rfl, rfl, by decide, by decide, by decide +kernel⟩
set_option maxRecDepth 20000 in
theorem clL_74 : mCV RL 74 RX9 yX9_pairing cX9_pairing 3 (some .int) 1 := ⟨mT_at 853 rfl rfl, mT_at 854 rfl rfl, mT_at 855 rfl rfl, mT_at 10 rfl rfl, mT_at 856 rfl rfl, rfl, by decide, by decide, by decide +kernel⟩
set_option maxHeartbeats 4000000 in
set_option maxRecDepth 100000 in
theorem lk_pairing {p : Program} {l : Launch} {e : Env} {s : State} {m : MethodId} {below : List Frame} {meth : Method} {c : Code} {H : Heap} {locs : List Loc} {cells slots : Nat} {Q : State → Prop} {ls : Array Slot} {b0 L i : Nat} {xs : Nat → Int32} {gX gM : mG} {I I' : mI} {J J' : mJ} {R : mR} (B : lFix p m c s b0 gX gM) (hX : va_X b0 L xs s s.heap) (hbl : b0 < s.heap.size) (hL : L ≤ 3072) (hi : i + 6 ≤ L) (hcs : cells ≤ room_1.cells ∧ slots ≤ room_1.slots) (hw : lHp gX gM s I J R I' J' H locs) (hS : Sim I R I') (hl : lv_has ls 4 [(3, .int (nI i)), (2, .ref (gM.2.1 0)), (1, .ref (gX.2.1 0)), (0, .ref b0)]) (kk : lNx p l e s m below meth c cells slots Q b0 gX gM ls) : W p l e room_1 s m #[Value.ref b0] below meth c H locs cells slots Q (F0 m 649 ls []) := by
  have hx := B.1.1
  have hb := B.1.2.1
  obtain ⟨v, I1, J1, I1', e1, e2, hS1⟩ := s_pairing hS J J' (xs (i + 1))
  refine lv_aload_n hx hb dL_law_649 rfl (lv_at hl 2 rfl) ?_
  refine l_arg (k := 1) hx hb hX hbl hw.2.2 hl hL (by omega) (by decide) dL_law_650 dL_law_651 dL_law_652 dL_law_653 dL_law_654 ?_
  refine lcX (rest := []) (I1 := I1) (J1 := J1) (R1 := R) (rv := some (.int v)) B hw [.int (xs (i + 1))] clL_71 (r_X8_pairing l gX kX 190 (mInj_up B.2.2.2.1) kX_ok 0 (xs (i + 1)) I J R (v, I1, J1) e1) ⟨rfl, rfl, Nat.le_of_ble_eq_true rfl, Nat.le_of_ble_eq_true rfl⟩ rfl hl.1 (Nat.le_of_ble_eq_true rfl) hcs dL_law_655 (fun H locs hw => ?_)
  refine W.eq (g2 := F0 m 658 ls [.int v]) rfl ?_
  refine lv_aload_n hx hb dL_law_658 rfl (lv_at hl 1 rfl) ?_
  refine l_arg (k := 1) hx hb hX hbl hw.2.2 hl hL (by omega) (by decide) dL_law_659 dL_law_660 dL_law_661 dL_law_662 dL_law_663 ?_
  refine lcM (rest := [.int v]) (I1' := I1') (J1' := J') (rv := some (.int v)) B hw [.int (xs (i + 1))] clL_74 (r_X9_pairing l gM kM 17 (mInj_upM B.2.2.2.2.1) kM_ok 0 (xs (i + 1)) I' J' rM (v, I1') e2) ⟨rfl, rfl, Nat.le_of_ble_eq_true rfl, Nat.le_of_ble_eq_true rfl⟩ rfl hl.1 (Nat.le_of_ble_eq_true rfl) hcs dL_law_664 (fun H locs hw => ?_)
  refine W.eq (g2 := F0 m 667 ls [.int v, .int v]) rfl ?_
  refine lv_icmp_eq (tgt := 939) hx hb dL_law_667 (by decide) (fun _ => ?_) (fun q => absurd rfl q)
  exact kk I1 J1 R I1' J' H locs hw hS1
set_option maxRecDepth 20000 in
theorem clL_75 : mCV RL 75 RX8 yX8_margin cX8_margin 3 (some .int) 1 := ⟨mT_at 488 rfl rfl, mT_at 489 rfl rfl, mT_at 490 rfl rfl, mT_at 1 rfl rfl, mT_at 491 rfl rfl, rfl, by decide, by decide, by decide +kernel⟩
set_option maxRecDepth 20000 in
theorem clL_78 : mCV RL 78 RX9 yX9_margin cX9_margin 3 (some .int) 1 := ⟨mT_at 873 rfl rfl, mT_at 874 rfl rfl, mT_at 875 rfl rfl, mT_at 10 rfl rfl, mT_at 876 rfl rfl, rfl, by decide, by decide, by decide +kernel⟩
set_option maxHeartbeats 4000000 in
set_option maxRecDepth 100000 in
theorem lk_margin {p : Program} {l : Launch} {e : Env} {s : State} {m : MethodId} {below : List Frame} {meth : Method} {c : Code} {H : Heap} {locs : List Loc} {cells slots : Nat} {Q : State → Prop} {ls : Array Slot} {b0 L i : Nat} {xs : Nat → Int32} {gX gM : mG} {I I' : mI} {J J' : mJ} {R : mR} (B : lFix p m c s b0 gX gM) (hX : va_X b0 L xs s s.heap) (hbl : b0 < s.heap.size) (hL : L ≤ 3072) (hi : i + 6 ≤ L) (hcs : cells ≤ room_1.cells ∧ slots ≤ room_1.slots) (hw : lHp gX gM s I J R I' J' H locs) (hS : Sim I R I') (hl : lv_has ls 4 [(3, .int (nI i)), (2, .ref (gM.2.1 0)), (1, .ref (gX.2.1 0)), (0, .ref b0)]) (kk : lNx p l e s m below meth c cells slots Q b0 gX gM ls) : W p l e room_1 s m #[Value.ref b0] below meth c H locs cells slots Q (F0 m 672 ls []) := by
  have hx := B.1.1
  have hb := B.1.2.1
  obtain ⟨v, I1, J1, I1', e1, e2, hS1⟩ := s_margin hS J J' (xs (i + 1))
  refine lv_aload_n hx hb dL_law_672 rfl (lv_at hl 2 rfl) ?_
  refine l_arg (k := 1) hx hb hX hbl hw.2.2 hl hL (by omega) (by decide) dL_law_673 dL_law_674 dL_law_675 dL_law_676 dL_law_677 ?_
  refine lcX (rest := []) (I1 := I1) (J1 := J1) (R1 := R) (rv := some (.int v)) B hw [.int (xs (i + 1))] clL_75 (r_X8_margin l gX kX 190 (mInj_up B.2.2.2.1) kX_ok 0 (xs (i + 1)) I J R (v, I1, J1) e1) ⟨rfl, rfl, Nat.le_of_ble_eq_true rfl, Nat.le_of_ble_eq_true rfl⟩ rfl hl.1 (Nat.le_of_ble_eq_true rfl) hcs dL_law_678 (fun H locs hw => ?_)
  refine W.eq (g2 := F0 m 681 ls [.int v]) rfl ?_
  refine lv_aload_n hx hb dL_law_681 rfl (lv_at hl 1 rfl) ?_
  refine l_arg (k := 1) hx hb hX hbl hw.2.2 hl hL (by omega) (by decide) dL_law_682 dL_law_683 dL_law_684 dL_law_685 dL_law_686 ?_
  refine lcM (rest := [.int v]) (I1' := I1') (J1' := J') (rv := some (.int v)) B hw [.int (xs (i + 1))] clL_78 (r_X9_margin l gM kM 17 (mInj_upM B.2.2.2.2.1) kM_ok 0 (xs (i + 1)) I' J' rM (v, I1') e2) ⟨rfl, rfl, Nat.le_of_ble_eq_true rfl, Nat.le_of_ble_eq_true rfl⟩ rfl hl.1 (Nat.le_of_ble_eq_true rfl) hcs dL_law_687 (fun H locs hw => ?_)
  refine W.eq (g2 := F0 m 690 ls [.int v, .int v]) rfl ?_
  refine lv_icmp_eq (tgt := 939) hx hb dL_law_690 (by decide) (fun _ => ?_) (fun q => absurd rfl q)
  exact kk I1 J1 R I1' J' H locs hw hS1
set_option maxRecDepth 20000 in
theorem clL_79 : mCV RL 79 RX8 yX8_seal cX8_seal 5 (some .int) 3 := ⟨mT_at 497 rfl rfl, mT_at 498 rfl rfl, mT_at 499 rfl rfl, mT_at 1 rfl rfl, mT_at 500 rfl rfl, rfl, by decide, by decide, by decide +kernel⟩
set_option maxRecDepth 20000 in
theorem clL_83 : mCV RL 83 RX9 yX9_seal cX9_seal 5 (some .int) 3 := ⟨mT_at 881 rfl rfl, mT_at 882 rfl rfl, mT_at 883 rfl rfl, mT_at 10 rfl rfl, mT_at 884 rfl rfl, rfl, by decide, by decide, by decide +kernel⟩
set_option maxHeartbeats 4000000 in
set_option maxRecDepth 100000 in
theorem lk_seal {p : Program} {l : Launch} {e : Env} {s : State} {m : MethodId} {below : List Frame} {meth : Method} {c : Code} {H : Heap} {locs : List Loc} {cells slots : Nat} {Q : State → Prop} {ls : Array Slot} {b0 L i : Nat} {xs : Nat → Int32} {gX gM : mG} {I I' : mI} {J J' : mJ} {R : mR} (B : lFix p m c s b0 gX gM) (hX : va_X b0 L xs s s.heap) (hbl : b0 < s.heap.size) (hL : L ≤ 3072) (hi : i + 6 ≤ L) (hcs : cells ≤ room_1.cells ∧ slots ≤ room_1.slots) (hw : lHp gX gM s I J R I' J' H locs) (hS : Sim I R I') (hl : lv_has ls 4 [(3, .int (nI i)), (2, .ref (gM.2.1 0)), (1, .ref (gX.2.1 0)), (0, .ref b0)]) (kk : lNx p l e s m below meth c cells slots Q b0 gX gM ls) : W p l e room_1 s m #[Value.ref b0] below meth c H locs cells slots Q (F0 m 695 ls []) := by
  have hx := B.1.1
  have hb := B.1.2.1
  obtain ⟨v, I1, I1', e1, e2, hS1⟩ := s_seal hS J J' (xs (i + 1)) (xs (i + 2)) (xs (i + 3))
  refine lv_aload_n hx hb dL_law_695 rfl (lv_at hl 2 rfl) ?_
  refine l_arg (k := 1) hx hb hX hbl hw.2.2 hl hL (by omega) (by decide) dL_law_696 dL_law_697 dL_law_698 dL_law_699 dL_law_700 ?_
  refine l_arg (k := 2) hx hb hX hbl hw.2.2 hl hL (by omega) (by decide) dL_law_701 dL_law_702 dL_law_703 dL_law_704 dL_law_705 ?_
  refine l_arg (k := 3) hx hb hX hbl hw.2.2 hl hL (by omega) (by decide) dL_law_706 dL_law_707 dL_law_708 dL_law_709 dL_law_710 ?_
  refine lcX (rest := []) (I1 := I1) (J1 := J) (R1 := R) (rv := some (.int v)) B hw [.int (xs (i + 1)), .int (xs (i + 2)), .int (xs (i + 3))] clL_79 (r_X8_seal l gX kX 190 (mInj_up B.2.2.2.1) kX_ok 0 (xs (i + 1)) (xs (i + 2)) (xs (i + 3)) I J R (v, I1) e1) ⟨rfl, rfl, Nat.le_of_ble_eq_true rfl, Nat.le_of_ble_eq_true rfl⟩ rfl hl.1 (Nat.le_of_ble_eq_true rfl) hcs dL_law_711 (fun H locs hw => ?_)
  refine W.eq (g2 := F0 m 714 ls [.int v]) rfl ?_
  refine lv_aload_n hx hb dL_law_714 rfl (lv_at hl 1 rfl) ?_
  refine l_arg (k := 1) hx hb hX hbl hw.2.2 hl hL (by omega) (by decide) dL_law_715 dL_law_716 dL_law_717 dL_law_718 dL_law_719 ?_
  refine l_arg (k := 2) hx hb hX hbl hw.2.2 hl hL (by omega) (by decide) dL_law_720 dL_law_721 dL_law_722 dL_law_723 dL_law_724 ?_
  refine l_arg (k := 3) hx hb hX hbl hw.2.2 hl hL (by omega) (by decide) dL_law_725 dL_law_726 dL_law_727 dL_law_728 dL_law_729 ?_
  refine lcM (rest := [.int v]) (I1' := I1') (J1' := J') (rv := some (.int v)) B hw [.int (xs (i + 1)), .int (xs (i + 2)), .int (xs (i + 3))] clL_83 (r_X9_seal l gM kM 17 (mInj_upM B.2.2.2.2.1) kM_ok 0 (xs (i + 1)) (xs (i + 2)) (xs (i + 3)) I' J' rM (v, I1') e2) ⟨rfl, rfl, Nat.le_of_ble_eq_true rfl, Nat.le_of_ble_eq_true rfl⟩ rfl hl.1 (Nat.le_of_ble_eq_true rfl) hcs dL_law_730 (fun H locs hw => ?_)
  refine W.eq (g2 := F0 m 733 ls [.int v, .int v]) rfl ?_
  refine lv_icmp_eq (tgt := 939) hx hb dL_law_733 (by decide) (fun _ => ?_) (fun q => absurd rfl q)
  exact kk I1 J R I1' J' H locs hw hS1
set_option maxRecDepth 20000 in
theorem clL_84 : mCV RL 84 RX8 yX8_give cX8_give 4 (some .int) 1 := ⟨mT_at 516 rfl rfl, mT_at 517 rfl rfl, mT_at 518 rfl rfl, mT_at 1 rfl rfl, mT_at 519 rfl rfl, rfl, by decide, by decide, by decide +kernel⟩
set_option maxRecDepth 20000 in
theorem clL_87 : mCV RL 87 RX9 yX9_give cX9_give 4 (some .int) 1 := ⟨mT_at 892 rfl rfl, mT_at 893 rfl rfl, mT_at 894 rfl rfl, mT_at 10 rfl rfl, mT_at 895 rfl rfl, rfl, by decide, by decide, by decide +kernel⟩
set_option maxHeartbeats 4000000 in
set_option maxRecDepth 100000 in
theorem lk_give {p : Program} {l : Launch} {e : Env} {s : State} {m : MethodId} {below : List Frame} {meth : Method} {c : Code} {H : Heap} {locs : List Loc} {cells slots : Nat} {Q : State → Prop} {ls : Array Slot} {b0 L i : Nat} {xs : Nat → Int32} {gX gM : mG} {I I' : mI} {J J' : mJ} {R : mR} (B : lFix p m c s b0 gX gM) (hX : va_X b0 L xs s s.heap) (hbl : b0 < s.heap.size) (hL : L ≤ 3072) (hi : i + 6 ≤ L) (hcs : cells ≤ room_1.cells ∧ slots ≤ room_1.slots) (hw : lHp gX gM s I J R I' J' H locs) (hS : Sim I R I') (hl : lv_has ls 4 [(3, .int (nI i)), (2, .ref (gM.2.1 0)), (1, .ref (gX.2.1 0)), (0, .ref b0)]) (kk : lNx p l e s m below meth c cells slots Q b0 gX gM ls) : W p l e room_1 s m #[Value.ref b0] below meth c H locs cells slots Q (F0 m 738 ls []) := by
  have hx := B.1.1
  have hb := B.1.2.1
  obtain ⟨v, I1, J1, I1', e1, e2, hS1⟩ := s_give hS J J' (xs (i + 1))
  refine lv_aload_n hx hb dL_law_738 rfl (lv_at hl 2 rfl) ?_
  refine l_arg (k := 1) hx hb hX hbl hw.2.2 hl hL (by omega) (by decide) dL_law_739 dL_law_740 dL_law_741 dL_law_742 dL_law_743 ?_
  refine lcX (rest := []) (I1 := I1) (J1 := J1) (R1 := R) (rv := some (.int v)) B hw [.int (xs (i + 1))] clL_84 (r_X8_give l gX kX 190 (mInj_up B.2.2.2.1) kX_ok 0 (xs (i + 1)) I J R (v, I1, J1) e1) ⟨rfl, rfl, Nat.le_of_ble_eq_true rfl, Nat.le_of_ble_eq_true rfl⟩ rfl hl.1 (Nat.le_of_ble_eq_true rfl) hcs dL_law_744 (fun H locs hw => ?_)
  refine W.eq (g2 := F0 m 747 ls [.int v]) rfl ?_
  refine lv_aload_n hx hb dL_law_747 rfl (lv_at hl 1 rfl) ?_
  refine l_arg (k := 1) hx hb hX hbl hw.2.2 hl hL (by omega) (by decide) dL_law_748 dL_law_749 dL_law_750 dL_law_751 dL_law_752 ?_
  refine lcM (rest := [.int v]) (I1' := I1') (J1' := J') (rv := some (.int v)) B hw [.int (xs (i + 1))] clL_87 (r_X9_give l gM kM 17 (mInj_upM B.2.2.2.2.1) kM_ok 0 (xs (i + 1)) I' J' rM (v, I1') e2) ⟨rfl, rfl, Nat.le_of_ble_eq_true rfl, Nat.le_of_ble_eq_true rfl⟩ rfl hl.1 (Nat.le_of_ble_eq_true rfl) hcs dL_law_753 (fun H locs hw => ?_)
  refine W.eq (g2 := F0 m 756 ls [.int v, .int v]) rfl ?_
  refine lv_icmp_eq (tgt := 939) hx hb dL_law_756 (by decide) (fun _ => ?_) (fun q => absurd rfl q)
  exact kk I1 J1 R I1' J' H locs hw hS1
set_option maxRecDepth 20000 in
theorem clL_88 : mCV RL 88 RX8 yX8_named cX8_named 4 (some .int) 2 := ⟨mT_at 520 rfl rfl, mT_at 521 rfl rfl, mT_at 522 rfl rfl, mT_at 1 rfl rfl, mT_at 523 rfl rfl, rfl, by decide, by decide, by decide +kernel⟩
set_option maxRecDepth 20000 in
theorem clL_91 : mCV RL 91 RX9 yX9_named cX9_named 3 (some .int) 2 := ⟨mT_at 896 rfl rfl, mT_at 897 rfl rfl, mT_at 898 rfl rfl, mT_at 10 rfl rfl, mT_at 899 rfl rfl, rfl, by decide, by decide, by decide +kernel⟩
set_option maxHeartbeats 4000000 in
set_option maxRecDepth 100000 in
theorem lk_named {p : Program} {l : Launch} {e : Env} {s : State} {m : MethodId} {below : List Frame} {meth : Method} {c : Code} {H : Heap} {locs : List Loc} {cells slots : Nat} {Q : State → Prop} {ls : Array Slot} {b0 L i : Nat} {xs : Nat → Int32} {gX gM : mG} {I I' : mI} {J J' : mJ} {R : mR} (B : lFix p m c s b0 gX gM) (hX : va_X b0 L xs s s.heap) (hbl : b0 < s.heap.size) (hL : L ≤ 3072) (hi : i + 6 ≤ L) (hcs : cells ≤ room_1.cells ∧ slots ≤ room_1.slots) (hw : lHp gX gM s I J R I' J' H locs) (hS : Sim I R I') (hl : lv_has ls 4 [(3, .int (nI i)), (2, .ref (gM.2.1 0)), (1, .ref (gX.2.1 0)), (0, .ref b0)]) (kk : lNx p l e s m below meth c cells slots Q b0 gX gM ls) : W p l e room_1 s m #[Value.ref b0] below meth c H locs cells slots Q (F0 m 761 ls []) := by
  have hx := B.1.1
  have hb := B.1.2.1
  obtain ⟨v, I1, e1, e2, hS1⟩ := s_named hS J J' (xs (i + 1)) (xs (i + 2))
  refine lv_aload_n hx hb dL_law_761 rfl (lv_at hl 2 rfl) ?_
  refine l_arg (k := 1) hx hb hX hbl hw.2.2 hl hL (by omega) (by decide) dL_law_762 dL_law_763 dL_law_764 dL_law_765 dL_law_766 ?_
  refine l_arg (k := 2) hx hb hX hbl hw.2.2 hl hL (by omega) (by decide) dL_law_767 dL_law_768 dL_law_769 dL_law_770 dL_law_771 ?_
  refine lcX (rest := []) (I1 := I1) (J1 := J) (R1 := R) (rv := some (.int v)) B hw [.int (xs (i + 1)), .int (xs (i + 2))] clL_88 (r_X8_named l gX kX 190 (mInj_up B.2.2.2.1) kX_ok 0 (xs (i + 1)) (xs (i + 2)) I J R (v, I1) e1) ⟨rfl, rfl, Nat.le_of_ble_eq_true rfl, Nat.le_of_ble_eq_true rfl⟩ rfl hl.1 (Nat.le_of_ble_eq_true rfl) hcs dL_law_772 (fun H locs hw => ?_)
  refine W.eq (g2 := F0 m 775 ls [.int v]) rfl ?_
  refine lv_aload_n hx hb dL_law_775 rfl (lv_at hl 1 rfl) ?_
  refine l_arg (k := 1) hx hb hX hbl hw.2.2 hl hL (by omega) (by decide) dL_law_776 dL_law_777 dL_law_778 dL_law_779 dL_law_780 ?_
  refine l_arg (k := 2) hx hb hX hbl hw.2.2 hl hL (by omega) (by decide) dL_law_781 dL_law_782 dL_law_783 dL_law_784 dL_law_785 ?_
  refine lcM (rest := [.int v]) (I1' := I') (J1' := J') (rv := some (.int v)) B hw [.int (xs (i + 1)), .int (xs (i + 2))] clL_91 (r_X9_named l gM kM 17 (mInj_upM B.2.2.2.2.1) kM_ok 0 (xs (i + 1)) (xs (i + 2)) I' J' rM v e2) ⟨rfl, rfl, Nat.le_of_ble_eq_true rfl, Nat.le_of_ble_eq_true rfl⟩ rfl hl.1 (Nat.le_of_ble_eq_true rfl) hcs dL_law_786 (fun H locs hw => ?_)
  refine W.eq (g2 := F0 m 789 ls [.int v, .int v]) rfl ?_
  refine lv_icmp_eq (tgt := 939) hx hb dL_law_789 (by decide) (fun _ => ?_) (fun q => absurd rfl q)
  exact kk I1 J R I' J' H locs hw hS1
set_option maxRecDepth 20000 in
theorem clL_92 : mCV RL 92 RX8 yX8_unname cX8_unname 3 (some .boolean) 1 := ⟨mT_at 528 rfl rfl, mT_at 529 rfl rfl, mT_at 530 rfl rfl, mT_at 1 rfl rfl, mT_at 531 rfl rfl, rfl, by decide, by decide, by decide +kernel⟩
set_option maxRecDepth 20000 in
theorem clL_96 : mCV RL 96 RX9 yX9_unname cX9_unname 2 (some .boolean) 1 := ⟨mT_at 904 rfl rfl, mT_at 905 rfl rfl, mT_at 906 rfl rfl, mT_at 10 rfl rfl, mT_at 907 rfl rfl, rfl, by decide, by decide, by decide +kernel⟩
set_option maxHeartbeats 4000000 in
set_option maxRecDepth 100000 in
theorem lk_unname {p : Program} {l : Launch} {e : Env} {s : State} {m : MethodId} {below : List Frame} {meth : Method} {c : Code} {H : Heap} {locs : List Loc} {cells slots : Nat} {Q : State → Prop} {ls : Array Slot} {b0 L i : Nat} {xs : Nat → Int32} {gX gM : mG} {I I' : mI} {J J' : mJ} {R : mR} (B : lFix p m c s b0 gX gM) (hX : va_X b0 L xs s s.heap) (hbl : b0 < s.heap.size) (hL : L ≤ 3072) (hi : i + 6 ≤ L) (hcs : cells ≤ room_1.cells ∧ slots ≤ room_1.slots) (hw : lHp gX gM s I J R I' J' H locs) (hS : Sim I R I') (hl : lv_has ls 4 [(3, .int (nI i)), (2, .ref (gM.2.1 0)), (1, .ref (gX.2.1 0)), (0, .ref b0)]) (kk : lNx p l e s m below meth c cells slots Q b0 gX gM ls) : W p l e room_1 s m #[Value.ref b0] below meth c H locs cells slots Q (F0 m 794 ls []) := by
  have hx := B.1.1
  have hb := B.1.2.1
  obtain ⟨v, I1, I1', e1, e2, hS1⟩ := s_unname hS J J' (xs (i + 1))
  refine lv_aload_n hx hb dL_law_794 rfl (lv_at hl 2 rfl) ?_
  refine l_arg (k := 1) hx hb hX hbl hw.2.2 hl hL (by omega) (by decide) dL_law_795 dL_law_796 dL_law_797 dL_law_798 dL_law_799 ?_
  refine lcX (rest := []) (I1 := I1) (J1 := J) (R1 := R) (rv := some (.int (mb v))) B hw [.int (xs (i + 1))] clL_92 (r_X8_unname l gX kX 190 (mInj_up B.2.2.2.1) kX_ok 0 (xs (i + 1)) I J R (v, I1) e1) ⟨rfl, rfl, Nat.le_of_ble_eq_true rfl, Nat.le_of_ble_eq_true rfl⟩ rfl hl.1 (Nat.le_of_ble_eq_true rfl) hcs dL_law_800 (fun H locs hw => ?_)
  refine W.eq (g2 := F0 m 803 ls [.int (mb v)]) rfl ?_
  refine lv_aload_n hx hb dL_law_803 rfl (lv_at hl 1 rfl) ?_
  refine l_arg (k := 1) hx hb hX hbl hw.2.2 hl hL (by omega) (by decide) dL_law_804 dL_law_805 dL_law_806 dL_law_807 dL_law_808 ?_
  refine lcM (rest := [.int (mb v)]) (I1' := I1') (J1' := J') (rv := some (.int (mb v))) B hw [.int (xs (i + 1))] clL_96 (r_X9_unname l gM kM 17 (mInj_upM B.2.2.2.2.1) kM_ok 0 (xs (i + 1)) I' J' rM (v, I1') e2) ⟨rfl, rfl, Nat.le_of_ble_eq_true rfl, Nat.le_of_ble_eq_true rfl⟩ rfl hl.1 (Nat.le_of_ble_eq_true rfl) hcs dL_law_809 (fun H locs hw => ?_)
  refine W.eq (g2 := F0 m 812 ls [.int (mb v), .int (mb v)]) rfl ?_
  refine lv_icmp_eq (tgt := 939) hx hb dL_law_812 (by decide) (fun _ => ?_) (fun q => absurd rfl q)
  exact kk I1 J R I1' J' H locs hw hS1
set_option maxRecDepth 20000 in
theorem clL_97 : mCV RL 97 RX8 yX8_feed cX8_feed 6 (some .int) 5 := ⟨mT_at 532 rfl rfl, mT_at 533 rfl rfl, mT_at 534 rfl rfl, mT_at 1 rfl rfl, mT_at 535 rfl rfl, rfl, by decide, by decide, by decide +kernel⟩
set_option maxRecDepth 20000 in
theorem clL_101 : mCV RL 101 RX9 yX9_feed cX9_feed 6 (some .int) 5 := ⟨mT_at 908 rfl rfl, mT_at 909 rfl rfl, mT_at 910 rfl rfl, mT_at 10 rfl rfl, mT_at 911 rfl rfl, rfl, by decide, by decide, by decide +kernel⟩
set_option maxHeartbeats 4000000 in
set_option maxRecDepth 100000 in
theorem lk_feed {p : Program} {l : Launch} {e : Env} {s : State} {m : MethodId} {below : List Frame} {meth : Method} {c : Code} {H : Heap} {locs : List Loc} {cells slots : Nat} {Q : State → Prop} {ls : Array Slot} {b0 L i : Nat} {xs : Nat → Int32} {gX gM : mG} {I I' : mI} {J J' : mJ} {R : mR} (B : lFix p m c s b0 gX gM) (hX : va_X b0 L xs s s.heap) (hbl : b0 < s.heap.size) (hL : L ≤ 3072) (hi : i + 6 ≤ L) (hcs : cells ≤ room_1.cells ∧ slots ≤ room_1.slots) (hw : lHp gX gM s I J R I' J' H locs) (hS : Sim I R I') (hl : lv_has ls 4 [(3, .int (nI i)), (2, .ref (gM.2.1 0)), (1, .ref (gX.2.1 0)), (0, .ref b0)]) (kk : lNx p l e s m below meth c cells slots Q b0 gX gM ls) : W p l e room_1 s m #[Value.ref b0] below meth c H locs cells slots Q (F0 m 817 ls []) := by
  have hx := B.1.1
  have hb := B.1.2.1
  obtain ⟨v, I1, I1', e1, e2, hS1⟩ := s_feed hS J J' (xs (i + 1)) (xs (i + 2)) (xs (i + 3)) (xs (i + 4)) (xs (i + 5))
  refine lv_aload_n hx hb dL_law_817 rfl (lv_at hl 2 rfl) ?_
  refine l_arg (k := 1) hx hb hX hbl hw.2.2 hl hL (by omega) (by decide) dL_law_818 dL_law_819 dL_law_820 dL_law_821 dL_law_822 ?_
  refine l_arg (k := 2) hx hb hX hbl hw.2.2 hl hL (by omega) (by decide) dL_law_823 dL_law_824 dL_law_825 dL_law_826 dL_law_827 ?_
  refine l_arg (k := 3) hx hb hX hbl hw.2.2 hl hL (by omega) (by decide) dL_law_828 dL_law_829 dL_law_830 dL_law_831 dL_law_832 ?_
  refine l_arg (k := 4) hx hb hX hbl hw.2.2 hl hL (by omega) (by decide) dL_law_833 dL_law_834 dL_law_835 dL_law_836 dL_law_837 ?_
  refine l_arg (k := 5) hx hb hX hbl hw.2.2 hl hL (by omega) (by decide) dL_law_838 dL_law_839 dL_law_840 dL_law_841 dL_law_842 ?_
  refine lcX (rest := []) (I1 := I1) (J1 := J) (R1 := R) (rv := some (.int v)) B hw [.int (xs (i + 1)), .int (xs (i + 2)), .int (xs (i + 3)), .int (xs (i + 4)), .int (xs (i + 5))] clL_97 (r_X8_feed l gX kX 190 (mInj_up B.2.2.2.1) kX_ok 0 (xs (i + 1)) (xs (i + 2)) (xs (i + 3)) (xs (i + 4)) (xs (i + 5)) I J R (v, I1) e1) ⟨rfl, rfl, Nat.le_of_ble_eq_true rfl, Nat.le_of_ble_eq_true rfl⟩ rfl hl.1 (Nat.le_of_ble_eq_true rfl) hcs dL_law_843 (fun H locs hw => ?_)
  refine W.eq (g2 := F0 m 846 ls [.int v]) rfl ?_
  refine lv_aload_n hx hb dL_law_846 rfl (lv_at hl 1 rfl) ?_
  refine l_arg (k := 1) hx hb hX hbl hw.2.2 hl hL (by omega) (by decide) dL_law_847 dL_law_848 dL_law_849 dL_law_850 dL_law_851 ?_
  refine l_arg (k := 2) hx hb hX hbl hw.2.2 hl hL (by omega) (by decide) dL_law_852 dL_law_853 dL_law_854 dL_law_855 dL_law_856 ?_
  refine l_arg (k := 3) hx hb hX hbl hw.2.2 hl hL (by omega) (by decide) dL_law_857 dL_law_858 dL_law_859 dL_law_860 dL_law_861 ?_
  refine l_arg (k := 4) hx hb hX hbl hw.2.2 hl hL (by omega) (by decide) dL_law_862 dL_law_863 dL_law_864 dL_law_865 dL_law_866 ?_
  refine l_arg (k := 5) hx hb hX hbl hw.2.2 hl hL (by omega) (by decide) dL_law_867 dL_law_868 dL_law_869 dL_law_870 dL_law_871 ?_
  refine lcM (rest := [.int v]) (I1' := I1') (J1' := J') (rv := some (.int v)) B hw [.int (xs (i + 1)), .int (xs (i + 2)), .int (xs (i + 3)), .int (xs (i + 4)), .int (xs (i + 5))] clL_101 (r_X9_feed l gM kM 17 (mInj_upM B.2.2.2.2.1) kM_ok 0 (xs (i + 1)) (xs (i + 2)) (xs (i + 3)) (xs (i + 4)) (xs (i + 5)) I' J' rM (v, I1') e2) ⟨rfl, rfl, Nat.le_of_ble_eq_true rfl, Nat.le_of_ble_eq_true rfl⟩ rfl hl.1 (Nat.le_of_ble_eq_true rfl) hcs dL_law_872 (fun H locs hw => ?_)
  refine W.eq (g2 := F0 m 875 ls [.int v, .int v]) rfl ?_
  refine lv_icmp_eq (tgt := 939) hx hb dL_law_875 (by decide) (fun _ => ?_) (fun q => absurd rfl q)
  exact kk I1 J R I1' J' H locs hw hS1
set_option maxRecDepth 20000 in
theorem clL_102 : mCV RL 102 RX8 yX8_law cX8_law 4 (some .int) 1 := ⟨mT_at 544 rfl rfl, mT_at 545 rfl rfl, mT_at 546 rfl rfl, mT_at 1 rfl rfl, mT_at 547 rfl rfl, rfl, by decide, by decide, by decide +kernel⟩
set_option maxRecDepth 20000 in
theorem clL_105 : mCV RL 105 RX9 yX9_law cX9_law 5 (some .int) 1 := ⟨mT_at 916 rfl rfl, mT_at 917 rfl rfl, mT_at 918 rfl rfl, mT_at 10 rfl rfl, mT_at 919 rfl rfl, rfl, by decide, by decide, by decide +kernel⟩
set_option maxHeartbeats 4000000 in
set_option maxRecDepth 100000 in
theorem lk_law {p : Program} {l : Launch} {e : Env} {s : State} {m : MethodId} {below : List Frame} {meth : Method} {c : Code} {H : Heap} {locs : List Loc} {cells slots : Nat} {Q : State → Prop} {ls : Array Slot} {b0 L i : Nat} {xs : Nat → Int32} {gX gM : mG} {I I' : mI} {J J' : mJ} {R : mR} (B : lFix p m c s b0 gX gM) (hX : va_X b0 L xs s s.heap) (hbl : b0 < s.heap.size) (hL : L ≤ 3072) (hi : i + 6 ≤ L) (hcs : cells ≤ room_1.cells ∧ slots ≤ room_1.slots) (hw : lHp gX gM s I J R I' J' H locs) (hS : Sim I R I') (hl : lv_has ls 4 [(3, .int (nI i)), (2, .ref (gM.2.1 0)), (1, .ref (gX.2.1 0)), (0, .ref b0)]) (kk : lNx p l e s m below meth c cells slots Q b0 gX gM ls) : W p l e room_1 s m #[Value.ref b0] below meth c H locs cells slots Q (F0 m 880 ls []) := by
  have hx := B.1.1
  have hb := B.1.2.1
  obtain ⟨v, I1, R1, I1', e1, e2, hS1⟩ := s_law hS J J' (xs (i + 1))
  refine lv_aload_n hx hb dL_law_880 rfl (lv_at hl 2 rfl) ?_
  refine l_arg (k := 1) hx hb hX hbl hw.2.2 hl hL (by omega) (by decide) dL_law_881 dL_law_882 dL_law_883 dL_law_884 dL_law_885 ?_
  refine lcX (rest := []) (I1 := I1) (J1 := J) (R1 := R1) (rv := some (.int v)) B hw [.int (xs (i + 1))] clL_102 (r_X8_law l gX kX 190 (mInj_up B.2.2.2.1) kX_ok 0 (xs (i + 1)) I J R (v, I1, R1) e1) ⟨rfl, rfl, Nat.le_of_ble_eq_true rfl, Nat.le_of_ble_eq_true rfl⟩ rfl hl.1 (Nat.le_of_ble_eq_true rfl) hcs dL_law_886 (fun H locs hw => ?_)
  refine W.eq (g2 := F0 m 889 ls [.int v]) rfl ?_
  refine lv_aload_n hx hb dL_law_889 rfl (lv_at hl 1 rfl) ?_
  refine l_arg (k := 1) hx hb hX hbl hw.2.2 hl hL (by omega) (by decide) dL_law_890 dL_law_891 dL_law_892 dL_law_893 dL_law_894 ?_
  refine lcM (rest := [.int v]) (I1' := I1') (J1' := J') (rv := some (.int v)) B hw [.int (xs (i + 1))] clL_105 (r_X9_law l gM kM 17 (mInj_upM B.2.2.2.2.1) kM_ok 0 (xs (i + 1)) I' J' rM (v, I1') e2) ⟨rfl, rfl, Nat.le_of_ble_eq_true rfl, Nat.le_of_ble_eq_true rfl⟩ rfl hl.1 (Nat.le_of_ble_eq_true rfl) hcs dL_law_895 (fun H locs hw => ?_)
  refine W.eq (g2 := F0 m 898 ls [.int v, .int v]) rfl ?_
  refine lv_icmp_eq (tgt := 939) hx hb dL_law_898 (by decide) (fun _ => ?_) (fun q => absurd rfl q)
  exact kk I1 J R1 I1' J' H locs hw hS1
set_option maxRecDepth 20000 in
theorem clL_106 : mCV RL 106 RX8 yX8_fault cX8_fault 1 (some .int) 0 := ⟨mT_at 643 rfl rfl, mT_at 644 rfl rfl, mT_at 645 rfl rfl, mT_at 1 rfl rfl, mT_at 646 rfl rfl, rfl, by decide, by decide, by decide +kernel⟩
set_option maxRecDepth 20000 in
theorem clL_110 : mCV RL 110 RX9 yX9_fault cX9_fault 1 (some .int) 0 := ⟨mT_at 951 rfl rfl, mT_at 952 rfl rfl, mT_at 953 rfl rfl, mT_at 10 rfl rfl, mT_at 954 rfl rfl, rfl, by decide, by decide, by decide +kernel⟩
set_option maxHeartbeats 4000000 in
set_option maxRecDepth 100000 in
theorem lk_fault {p : Program} {l : Launch} {e : Env} {s : State} {m : MethodId} {below : List Frame} {meth : Method} {c : Code} {H : Heap} {locs : List Loc} {cells slots : Nat} {Q : State → Prop} {ls : Array Slot} {b0 L i : Nat} {xs : Nat → Int32} {gX gM : mG} {I I' : mI} {J J' : mJ} {R : mR} (B : lFix p m c s b0 gX gM) (hX : va_X b0 L xs s s.heap) (hbl : b0 < s.heap.size) (hL : L ≤ 3072) (hi : i + 6 ≤ L) (hcs : cells ≤ room_1.cells ∧ slots ≤ room_1.slots) (hw : lHp gX gM s I J R I' J' H locs) (hS : Sim I R I') (hl : lv_has ls 4 [(3, .int (nI i)), (2, .ref (gM.2.1 0)), (1, .ref (gX.2.1 0)), (0, .ref b0)]) (kk : lNx p l e s m below meth c cells slots Q b0 gX gM ls) : W p l e room_1 s m #[Value.ref b0] below meth c H locs cells slots Q (F0 m 903 ls []) := by
  have hx := B.1.1
  have hb := B.1.2.1
  obtain ⟨v, e1, e2⟩ := s_fault hS J J'
  refine lv_aload_n hx hb dL_law_903 rfl (lv_at hl 2 rfl) ?_
  refine lcX (rest := []) (I1 := I) (J1 := J) (R1 := R) (rv := some (.int v)) B hw [] clL_106 (r_X8_fault l gX kX 190 (mInj_up B.2.2.2.1) kX_ok 0  I J R v e1) ⟨rfl, rfl, Nat.le_of_ble_eq_true rfl, Nat.le_of_ble_eq_true rfl⟩ rfl hl.1 (Nat.le_of_ble_eq_true rfl) hcs dL_law_904 (fun H locs hw => ?_)
  refine W.eq (g2 := F0 m 907 ls [.int v]) rfl ?_
  refine lv_aload_n hx hb dL_law_907 rfl (lv_at hl 1 rfl) ?_
  refine lcM (rest := [.int v]) (I1' := I') (J1' := J') (rv := some (.int v)) B hw [] clL_110 (r_X9_fault l gM kM 17 (mInj_upM B.2.2.2.2.1) kM_ok 0  I' J' rM v e2) ⟨rfl, rfl, Nat.le_of_ble_eq_true rfl, Nat.le_of_ble_eq_true rfl⟩ rfl hl.1 (Nat.le_of_ble_eq_true rfl) hcs dL_law_908 (fun H locs hw => ?_)
  refine W.eq (g2 := F0 m 911 ls [.int v, .int v]) rfl ?_
  refine lv_icmp_eq (tgt := 939) hx hb dL_law_911 (by decide) (fun _ => ?_) (fun q => absurd rfl q)
  exact kk I J R I' J' H locs hw hS
set_option maxRecDepth 20000 in
theorem clL_111 : mCV RL 111 RX8 yX8_count cX8_count 2 (some .int) 1 := ⟨mT_at 647 rfl rfl, mT_at 648 rfl rfl, mT_at 649 rfl rfl, mT_at 1 rfl rfl, mT_at 650 rfl rfl, rfl, by decide, by decide, by decide +kernel⟩
set_option maxRecDepth 20000 in
theorem clL_114 : mCV RL 114 RX9 yX9_count cX9_count 2 (some .int) 1 := ⟨mT_at 955 rfl rfl, mT_at 956 rfl rfl, mT_at 957 rfl rfl, mT_at 10 rfl rfl, mT_at 958 rfl rfl, rfl, by decide, by decide, by decide +kernel⟩
set_option maxHeartbeats 4000000 in
set_option maxRecDepth 100000 in
theorem lk_count {p : Program} {l : Launch} {e : Env} {s : State} {m : MethodId} {below : List Frame} {meth : Method} {c : Code} {H : Heap} {locs : List Loc} {cells slots : Nat} {Q : State → Prop} {ls : Array Slot} {b0 L i : Nat} {xs : Nat → Int32} {gX gM : mG} {I I' : mI} {J J' : mJ} {R : mR} (B : lFix p m c s b0 gX gM) (hX : va_X b0 L xs s s.heap) (hbl : b0 < s.heap.size) (hL : L ≤ 3072) (hi : i + 6 ≤ L) (hcs : cells ≤ room_1.cells ∧ slots ≤ room_1.slots) (hw : lHp gX gM s I J R I' J' H locs) (hS : Sim I R I') (hl : lv_has ls 4 [(3, .int (nI i)), (2, .ref (gM.2.1 0)), (1, .ref (gX.2.1 0)), (0, .ref b0)]) (kk : lNx p l e s m below meth c cells slots Q b0 gX gM ls) : W p l e room_1 s m #[Value.ref b0] below meth c H locs cells slots Q (F0 m 916 ls []) := by
  have hx := B.1.1
  have hb := B.1.2.1
  obtain ⟨v, I1, J1, I1', e1, e2, hS1⟩ := s_count hS J J' (xs (i + 1))
  refine lv_aload_n hx hb dL_law_916 rfl (lv_at hl 2 rfl) ?_
  refine l_arg (k := 1) hx hb hX hbl hw.2.2 hl hL (by omega) (by decide) dL_law_917 dL_law_918 dL_law_919 dL_law_920 dL_law_921 ?_
  refine lcX (rest := []) (I1 := I1) (J1 := J1) (R1 := R) (rv := some (.int v)) B hw [.int (xs (i + 1))] clL_111 (r_X8_count l gX kX 190 (mInj_up B.2.2.2.1) kX_ok 0 (xs (i + 1)) I J R (v, I1, J1) e1) ⟨rfl, rfl, Nat.le_of_ble_eq_true rfl, Nat.le_of_ble_eq_true rfl⟩ rfl hl.1 (Nat.le_of_ble_eq_true rfl) hcs dL_law_922 (fun H locs hw => ?_)
  refine W.eq (g2 := F0 m 925 ls [.int v]) rfl ?_
  refine lv_aload_n hx hb dL_law_925 rfl (lv_at hl 1 rfl) ?_
  refine l_arg (k := 1) hx hb hX hbl hw.2.2 hl hL (by omega) (by decide) dL_law_926 dL_law_927 dL_law_928 dL_law_929 dL_law_930 ?_
  refine lcM (rest := [.int v]) (I1' := I1') (J1' := J') (rv := some (.int v)) B hw [.int (xs (i + 1))] clL_114 (r_X9_count l gM kM 17 (mInj_upM B.2.2.2.2.1) kM_ok 0 (xs (i + 1)) I' J' rM (v, I1') e2) ⟨rfl, rfl, Nat.le_of_ble_eq_true rfl, Nat.le_of_ble_eq_true rfl⟩ rfl hl.1 (Nat.le_of_ble_eq_true rfl) hcs dL_law_931 (fun H locs hw => ?_)
  refine W.eq (g2 := F0 m 934 ls [.int v, .int v]) rfl ?_
  refine lv_icmp_eq (tgt := 939) hx hb dL_law_934 (by decide) (fun _ => ?_) (fun q => absurd rfl q)
  exact kk I1 J1 R I1' J' H locs hw hS1
