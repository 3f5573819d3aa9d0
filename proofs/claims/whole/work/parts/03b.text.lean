/-! ===== text constants: the members of String that takeWord calls ===== -/
section MTXT
variable {p : Program} {l : Launch} {e : Env} {Rm : Room} {s : State} {m : MethodId} {args : Array Value} {below : List Frame} {meth : Method} {c : Code} {H : Heap} {locs : List Loc} {cells slots : Nat} {Q : State → Prop}
variable {cc : ByteArray} {pc : Nat} {ls : Array Slot} {rest : List Value} {own : String} {nL : Nat} {g : mG} {K : mK} {n : Nat} {I : mI} {J : mJ} {R : mR}
theorem mrn {I' : mI} {J' : mJ} {R' : mR} {v : Int32} {ty : FieldType} {av : Array Value} (hx : p.tables.exec = Jvm.exec) (hb : c.code = cc) (hr : meth.sig.returnType = some ty) (hn : narrow ty (.int v) = .int v) (hlk : meth.locks = false) (hw : mHp g K n s I' J' R' H locs) (hdg : decode cc pc = .ok (.ireturn, 1)) : W p l e Rm s m av below meth c H locs cells slots (MQ below (mQ g K n (some (.int v)) I' J' R') av s cells slots (mA g n)) (F0 m pc ls [.int v]) :=
  W.zret hx hb hr hn (fun t ht _ => ⟨rfl, by rw [ht]; exact hw.1, hw.2.F ht⟩) hw.2.2.2 hdg
/-- a call of a member of a text constant -/
theorem mcallT {I' : mI} {J' : mJ} {R' : mR} {rv : Option Value} {y : MethodName} {cc' : ByteArray} {mL index : Nat} {ret : Option FieldType} {rm : Room} {w : Nat} (B : mFix p m c cc nL s args own g K n) (hw : mHp g K n s I J R H locs) (As : List Value) {st0 : List Value} (V : mCV own index "java/lang/String" y cc' mL ret As.length) (hi : w < 8)
    (hM : Met l y (mWs y cc' mL ret) rm (va_Pc (.ref (g.2.2.2.1 w) :: As) (mB g K n I J R)) (mQ g K n rv I' J' R') 0 0 (mA g n)) (hrm : rm.cells = 0 ∧ rm.slots = 0 ∧ rm.frames + 1 ≤ Rm.frames ∧ 8 + (mL + 11) + rm.locals ≤ Rm.locals)
    (hst : st0 = As.reverse ++ .ref (g.2.2.2.1 w) :: rest) (hls : ls.size = nL) (hrest : (rest.map fun v => v.category).sum ≤ 8) (hcs : cells ≤ Rm.cells ∧ slots ≤ Rm.slots) (hdg : decode cc pc = .ok (.invokevirtual index, 3))
    (kk : ∀ (H1 : Heap) (locs1 : List Loc), mHp g K n s I' J' R' H1 locs1 → W p l e Rm s m args below meth c H1 locs1 cells slots Q (F0 m (pc + 3) ls (rv.toList ++ rest))) : W p l e Rm s m args below meth c H locs cells slots Q (F0 m pc ls st0) := by
  obtain ⟨S, hK, hJ, hO, hZ⟩ := B
  obtain ⟨v1, v2, v3, v4, v5, v6⟩ := V
  have hG : GoodIn mT (wsV own index "java/lang/String" y (mWs y cc' mL ret)) := mT_good (fun w hw => by
    rcases List.mem_append.mp hw with h | h
    · simp only [List.mem_cons, List.not_mem_nil, or_false] at h
      rcases h with rfl | rfl | rfl | rfl <;> assumption
    · exact mWs_in v5 w h)
  refine mgo hw (va_runV (As := As) (rest := rest) (b := g.2.2.2.1 w) S hM (cwV (n := As.length) S.2.2.2.2 hG rfl hrm.1 hrm.2.1 v6 hrm.2.2) ⟨mB_blind, vk_recv hZ.2.2.1 hi hw.2, fun U hU hW => ⟨rfl, by rw [hU]; exact hw.1, va_K.moved hW.alike hK, mZ_go hZ hW hU hw.2.2.1⟩⟩ rfl rfl hls hst (lv_room hrest) hdg hcs) kk
end MTXT
set_option maxRecDepth 20000 in
theorem clJ0_335 : mCV RJ0 335 "java/lang/String" yJ0_coder_7d493 cJ0_coder_7d493 1 (some .byte) 0 := ⟨mT_at 576 rfl rfl, mT_at 577 rfl rfl, mT_at 578 rfl rfl, mT_at 12 rfl rfl, mT_at 579 rfl rfl, rfl, by decide, by decide, by decide +kernel⟩
set_option maxRecDepth 20000 in
theorem clJ0_492 : mCV RJ0 492 "java/lang/String" yJ0_isLatin1_aae02 cJ0_isLatin1_aae02 1 (some .boolean) 0 := ⟨mT_at 586 rfl rfl, mT_at 587 rfl rfl, mT_at 588 rfl rfl, mT_at 12 rfl rfl, mT_at 589 rfl rfl, rfl, by decide, by decide, by decide +kernel⟩
set_option maxRecDepth 20000 in
theorem clJ0_495 : mCS RJ0 495 yJ1_charAt_3b067 cJ1_charAt_3b067 2 (some .char) 2 := ⟨mT_at 590 rfl rfl, mT_at 591 rfl rfl, mT_at 13 rfl rfl, mT_at 592 rfl rfl, by decide, by decide, by decide +kernel⟩
set_option maxRecDepth 20000 in
theorem clJ1_9 : mCS RJ1 9 yJ0_checkIndex_df160 cJ0_checkIndex_df160 2 none 2 := ⟨mT_at 593 rfl rfl, mT_at 594 rfl rfl, mT_at 12 rfl rfl, mT_at 595 rfl rfl, by decide, by decide, by decide +kernel⟩
set_option maxRecDepth 20000 in
theorem clJ0_1059 : mCS RJ0 1059 yJ3_checkIndex_8e157 cJ3_checkIndex_8e157 3 (some .int) 3 := ⟨mT_at 598 rfl rfl, mT_at 599 rfl rfl, mT_at 14 rfl rfl, mT_at 600 rfl rfl, by decide, by decide, by decide +kernel⟩
set_option maxRecDepth 20000 in
theorem clX5_96 : mCV RX5 96 "java/lang/String" yJ0_length_8abf5 cJ0_length_8abf5 1 (some .int) 0 := ⟨mT_at 572 rfl rfl, mT_at 573 rfl rfl, mT_at 574 rfl rfl, mT_at 12 rfl rfl, mT_at 575 rfl rfl, rfl, by decide, by decide, by decide +kernel⟩
set_option maxRecDepth 20000 in
theorem clX5_101 : mCV RX5 101 "java/lang/String" yJ0_charAt_5068e cJ0_charAt_5068e 2 (some .char) 1 := ⟨mT_at 582 rfl rfl, mT_at 583 rfl rfl, mT_at 584 rfl rfl, mT_at 12 rfl rfl, mT_at 585 rfl rfl, rfl, by decide, by decide, by decide +kernel⟩
set_option maxRecDepth 20000 in
theorem jl38 : Cond.fieldLink RJ0 38 "java/lang/String" "COMPACT_STRINGS" "Z" ∈ mT := mT_at 580 rfl rfl
set_option maxRecDepth 20000 in
theorem jl9 : Cond.fieldLink RJ0 9 "java/lang/String" "value" "[B" ∈ mT := mT_at 971 rfl rfl
set_option maxRecDepth 20000 in
theorem jl15 : Cond.fieldLink RJ0 15 "java/lang/String" "coder" "B" ∈ mT := mT_at 972 rfl rfl
set_option maxRecDepth 20000 in
theorem jl1053 : Cond.fieldLink RJ0 1053 "jdk/internal/util/Preconditions" "SIOOBE_FORMATTER" "Ljava/util/function/BiFunction;" ∈ mT := mT_at 596 rfl rfl
set_option maxHeartbeats 4000000 in
set_option maxRecDepth 100000 in
theorem rJ_coder (l : Launch) (g : mG) (K : mK) (n : Nat) (hJ : mInj g n) (hO : mOk K n) (w : Nat) (hi : w < 8) (I0 : mI) (J0 : mJ) (R0 : mR) : Met l yJ0_coder_7d493 (mWs yJ0_coder_7d493 cJ0_coder_7d493 1 (some .byte)) ({ frames := 0, cells := 0, slots := 0, locals := 0 }) (va_Pc [.ref (g.2.2.2.1 w)] (mB g K n I0 J0 R0)) (mQ g K n (some (.int 0)) I0 J0 R0) 0 0 (mA g n) := by
  refine mStart RJ0 hJ hO (by decide) rfl (Nat.le_of_ble_eq_true rfl) ?_
  intro p e s m below meth c ls Qm hQm B hr hlk hw hl
  have hx := B.1.1
  have hb := B.1.2.1
  have hZ := B.2.2.2.2
  have hl : lv_has ls 1 [(0, .ref (g.2.2.2.1 w))] := hl
  refine va_gets hx hb hZ.2.2.2.1 hw.2 B.1.2.2.2.1 (B.1.2.2.2.2 _ jl38) (fun _ h => h) dJ0_coder_7d493_0 ?_
  refine lv_if_eq (tgt := 13) hx hb dJ0_coder_7d493_3 (by decide) (fun c => absurd c (by decide)) (fun _ => ?_)
  refine lv_aload_n hx hb dJ0_coder_7d493_6 rfl (lv_at hl 0 rfl) ?_
  refine vk_getf hx hb (hZ.2.2.1.1 w hi).2.1 hw.2 B.1.2.2.2.1 (B.1.2.2.2.2 _ jl15) (fun _ h => h) dJ0_coder_7d493_7 ?_
  refine lv_goto (tgt := 14) hx hb dJ0_coder_7d493_10 (by decide) ?_
  rw [hQm]
  exact mrn hx hb hr rfl hlk hw dJ0_coder_7d493_14
set_option maxHeartbeats 4000000 in
set_option maxRecDepth 100000 in
theorem rJ_isLatin1 (l : Launch) (g : mG) (K : mK) (n : Nat) (hJ : mInj g n) (hO : mOk K n) (w : Nat) (hi : w < 8) (I0 : mI) (J0 : mJ) (R0 : mR) : Met l yJ0_isLatin1_aae02 (mWs yJ0_isLatin1_aae02 cJ0_isLatin1_aae02 1 (some .boolean)) ({ frames := 0, cells := 0, slots := 0, locals := 0 }) (va_Pc [.ref (g.2.2.2.1 w)] (mB g K n I0 J0 R0)) (mQ g K n (some (.int 1)) I0 J0 R0) 0 0 (mA g n) := by
  refine mStart RJ0 hJ hO (by decide) rfl (Nat.le_of_ble_eq_true rfl) ?_
  intro p e s m below meth c ls Qm hQm B hr hlk hw hl
  have hx := B.1.1
  have hb := B.1.2.1
  have hZ := B.2.2.2.2
  have hl : lv_has ls 1 [(0, .ref (g.2.2.2.1 w))] := hl
  refine va_gets hx hb hZ.2.2.2.1 hw.2 B.1.2.2.2.1 (B.1.2.2.2.2 _ jl38) (fun _ h => h) dJ0_isLatin1_aae02_0 ?_
  refine lv_if_eq (tgt := 17) hx hb dJ0_isLatin1_aae02_3 (by decide) (fun c => absurd c (by decide)) (fun _ => ?_)
  refine lv_aload_n hx hb dJ0_isLatin1_aae02_6 rfl (lv_at hl 0 rfl) ?_
  refine vk_getf hx hb (hZ.2.2.1.1 w hi).2.1 hw.2 B.1.2.2.2.1 (B.1.2.2.2.2 _ jl15) (fun _ h => h) dJ0_isLatin1_aae02_7 ?_
  refine lv_if_ne (tgt := 17) hx hb dJ0_isLatin1_aae02_10 (by decide) (fun c => absurd rfl c) (fun _ => ?_)
  refine lv_iconst (v := (1 : Int32)) hx hb dJ0_isLatin1_aae02_13 (by decide) ?_
  refine lv_goto (tgt := 18) hx hb dJ0_isLatin1_aae02_14 (by decide) ?_
  rw [hQm]
  exact mrn hx hb hr rfl hlk hw dJ0_isLatin1_aae02_18
set_option maxHeartbeats 4000000 in
set_option maxRecDepth 100000 in
theorem rJ_length (l : Launch) (g : mG) (K : mK) (n : Nat) (hJ : mInj g n) (hO : mOk K n) (w : Nat) (hi : w < 8) (I0 : mI) (J0 : mJ) (R0 : mR) : Met l yJ0_length_8abf5 (mWs yJ0_length_8abf5 cJ0_length_8abf5 1 (some .int)) ({ frames := 1, cells := 0, slots := 0, locals := 20 }) (va_Pc [.ref (g.2.2.2.1 w)] (mB g K n I0 J0 R0)) (mQ g K n (some (.int (nI (mSl.getD w 0)))) I0 J0 R0) 0 0 (mA g n) := by
  refine mStart RJ0 hJ hO (by decide) rfl (Nat.le_of_ble_eq_true rfl) ?_
  intro p e s m below meth c ls Qm hQm B hr hlk hw hl
  have hx := B.1.1
  have hb := B.1.2.1
  have hZ := B.2.2.2.2
  have hl : lv_has ls 1 [(0, .ref (g.2.2.2.1 w))] := hl
  refine lv_aload_n hx hb dJ0_length_8abf5_0 rfl (lv_at hl 0 rfl) ?_
  refine vk_getf hx hb (hZ.2.2.1.1 w hi).2.2.1 hw.2 B.1.2.2.2.1 (B.1.2.2.2.2 _ jl9) (fun _ h => h) dJ0_length_8abf5_1 ?_
  refine va_tlen hx hb (hZ.2.2.1.1 w hi).2.2.2 hw.2 (v := nI (mSl.getD w 0)) rfl dJ0_length_8abf5_4 ?_
  refine lv_aload_n hx hb dJ0_length_8abf5_5 rfl (lv_at hl 0 rfl) ?_
  refine mcallT (rest := [.int (nI (mSl.getD w 0))]) B hw [] clJ0_335 hi (rJ_coder l g K n hJ hO w hi I0 J0 R0) ⟨rfl, rfl, Nat.le_of_ble_eq_true rfl, Nat.le_of_ble_eq_true rfl⟩ rfl hl.1 (Nat.le_of_ble_eq_true rfl) ⟨Nat.zero_le _, Nat.zero_le _⟩ dJ0_length_8abf5_6 (fun H locs hw => ?_)
  refine W.eq (g2 := F0 m 9 ls [.int 0, .int (nI (mSl.getD w 0))]) rfl ?_
  refine lv_ishr hx hb dJ0_length_8abf5_9 ?_
  rw [sb_shr0, hQm]
  exact mri hx hb hr hlk hw dJ0_length_8abf5_10
set_option maxHeartbeats 4000000 in
set_option maxRecDepth 100000 in
theorem rJ_pcheck (l : Launch) (g : mG) (K : mK) (n : Nat) (hJ : mInj g n) (hO : mOk K n) (i k : Int32) (v : Value) (hv : v = .null ∨ ∃ t, v = .ref t) (h1 : ¬ i < 0) (h2 : i < k) (I0 : mI) (J0 : mJ) (R0 : mR) : Met l yJ3_checkIndex_8e157 (mWs yJ3_checkIndex_8e157 cJ3_checkIndex_8e157 3 (some .int)) ({ frames := 0, cells := 0, slots := 0, locals := 0 }) (va_Pc [.int i, .int k, v] (mB g K n I0 J0 R0)) (mQ g K n (some (.int i)) I0 J0 R0) 0 0 (mA g n) := by
  rcases hv with rfl | ⟨t, rfl⟩
  all_goals
    refine mStart RJ3 hJ hO (by decide) rfl (Nat.le_of_ble_eq_true rfl) ?_
    intro p e s m below meth c ls Qm hQm B hr hlk hw hl
    have hx := B.1.1
    have hb := B.1.2.1
    have hl0 : ls[0]? = some (.val (.int i)) := lv_at hl 0 rfl
    have hl1 : ls[1]? = some (.val (.int k)) := lv_at hl 1 rfl
    refine lv_iload_n hx hb dJ3_checkIndex_8e157_0 rfl hl0 ?_
    refine lv_if_lt (tgt := 9) hx hb dJ3_checkIndex_8e157_1 (by decide) (fun c => absurd c h1) (fun _ => ?_)
    refine lv_iload_n hx hb dJ3_checkIndex_8e157_4 rfl hl0 ?_
    refine lv_iload_n hx hb dJ3_checkIndex_8e157_5 rfl hl1 ?_
    refine lv_icmp_lt (tgt := 16) hx hb dJ3_checkIndex_8e157_6 (by decide) (fun _ => ?_) (fun c => absurd h2 c)
    refine lv_iload_n hx hb dJ3_checkIndex_8e157_16 rfl hl0 ?_
    rw [hQm]
    exact mri hx hb hr hlk hw dJ3_checkIndex_8e157_17
set_option maxHeartbeats 4000000 in
set_option maxRecDepth 100000 in
theorem rJ_check (l : Launch) (g : mG) (K : mK) (n : Nat) (hJ : mInj g n) (hO : mOk K n) (i k : Int32) (h1 : ¬ i < 0) (h2 : i < k) (I0 : mI) (J0 : mJ) (R0 : mR) : Met l yJ0_checkIndex_df160 (mWs yJ0_checkIndex_df160 cJ0_checkIndex_df160 2 none) ({ frames := 1, cells := 0, slots := 0, locals := 22 }) (va_Pc [.int i, .int k] (mB g K n I0 J0 R0)) (mQ g K n none I0 J0 R0) 0 0 (mA g n) := by
  refine mStart RJ0 hJ hO (by decide) rfl (Nat.le_of_ble_eq_true rfl) ?_
  intro p e s m below meth c ls Qm hQm B hr hlk hw hl
  have hx := B.1.1
  have hb := B.1.2.1
  have hZ := B.2.2.2.2
  have hl : lv_has ls 2 [(0, .int i), (1, .int k)] := hl
  refine lv_iload_n hx hb dJ0_checkIndex_df160_0 rfl (lv_at hl 0 rfl) ?_
  refine lv_iload_n hx hb dJ0_checkIndex_df160_1 rfl (lv_at hl 1 rfl) ?_
  have key : ∃ v : Value, (v = .null ∨ ∃ t, v = .ref t) ∧ va_Z "jdk/internal/util/Preconditions" "SIOOBE_FORMATTER" "Ljava/util/function/BiFunction;" v (mA g n) s s.heap := by
    rcases hZ.2.2.2.2 with h | ⟨t, h⟩
    · exact ⟨_, Or.inl rfl, h⟩
    · exact ⟨_, Or.inr ⟨t, rfl⟩, h⟩
  obtain ⟨v, hv, hvz⟩ := key
  refine va_gets hx hb hvz hw.2 B.1.2.2.2.1 (B.1.2.2.2.2 _ jl1053) (fun _ h => h) dJ0_checkIndex_df160_2 ?_
  refine mcallS (rest := []) B hw [.int i, .int k, v] clJ0_1059 (rJ_pcheck l g K n hJ hO i k v hv h1 h2 I0 J0 R0) ⟨rfl, rfl, Nat.le_of_ble_eq_true rfl, Nat.le_of_ble_eq_true rfl⟩ rfl hl.1 (Nat.le_of_ble_eq_true rfl) ⟨Nat.zero_le _, Nat.zero_le _⟩ dJ0_checkIndex_df160_5 (fun H locs hw => ?_)
  refine W.eq (g2 := F0 m 8 ls [.int i]) rfl ?_
  refine lv_pop hx hb dJ0_checkIndex_df160_8 rfl ?_
  rw [hQm]
  exact mrv hx hb hr hlk hw dJ0_checkIndex_df160_9
/-- the char of a text constant -/
def mSc (w : Nat) (i : Int32) : Int32 := ((((mSb.getD w []).getD i.toNatClampNeg 0) &&& 255).toUInt32 % 65536).toInt32
abbrev mSx (w : Nat) (i : Int32) : Prop := w < 8 ∧ 0 ≤ i.toInt ∧ i.toInt < ((mSl.getD w 0 : Nat) : Int)
theorem mSl_lt (w : Nat) (h : w < 8) : mSl.getD w 0 < 2 ^ 31 := by
  have : ∀ w, w < 8 → mSl.getD w 0 < 2 ^ 31 := by decide
  exact this w h
theorem mSx_lt {w : Nat} {i : Int32} (h : mSx w i) : ¬ i < 0 ∧ i < nI (mSl.getD w 0) := by
  obtain ⟨h1, h2, h3⟩ := h
  refine ⟨fun q => ?_, ?_⟩
  · have := Int32.lt_iff_toInt_lt.mp q
    have e0 : (0 : Int32).toInt = 0 := rfl
    omega
  · rw [Int32.lt_iff_toInt_lt, nI_toInt (mSl_lt w h1)]
    exact h3
set_option maxHeartbeats 4000000 in
set_option maxRecDepth 100000 in
theorem rJ_latChar (l : Launch) (g : mG) (K : mK) (n : Nat) (hJ : mInj g n) (hO : mOk K n) (w : Nat) (i : Int32) (hi : mSx w i) (I0 : mI) (J0 : mJ) (R0 : mR) : Met l yJ1_charAt_3b067 (mWs yJ1_charAt_3b067 cJ1_charAt_3b067 2 (some .char)) ({ frames := 2, cells := 0, slots := 0, locals := 43 }) (va_Pc [.ref (g.2.2.2.2 w), .int i] (mB g K n I0 J0 R0)) (mQ g K n (some (.int (mSc w i))) I0 J0 R0) 0 0 (mA g n) := by
  refine mStart RJ1 hJ hO (by decide) rfl (Nat.le_of_ble_eq_true rfl) ?_
  intro p e s m below meth c ls Qm hQm B hr hlk hw hl
  have hx := B.1.1
  have hb := B.1.2.1
  have hZ := B.2.2.2.2
  have hl : lv_has ls 2 [(0, .ref (g.2.2.2.2 w)), (1, .int i)] := hl
  refine lv_iload_n hx hb dJ1_charAt_3b067_0 rfl (lv_at hl 1 rfl) ?_
  refine lv_aload_n hx hb dJ1_charAt_3b067_1 rfl (lv_at hl 0 rfl) ?_
  refine va_tlen hx hb (hZ.2.2.1.1 w hi.1).2.2.2 hw.2 (v := nI (mSl.getD w 0)) rfl dJ1_charAt_3b067_2 ?_
  refine mcallS (rest := []) B hw [.int i, .int (nI (mSl.getD w 0))] clJ1_9 (rJ_check l g K n hJ hO i _ (mSx_lt hi).1 (mSx_lt hi).2 I0 J0 R0) ⟨rfl, rfl, Nat.le_of_ble_eq_true rfl, Nat.le_of_ble_eq_true rfl⟩ rfl hl.1 (Nat.le_of_ble_eq_true rfl) ⟨Nat.zero_le _, Nat.zero_le _⟩ dJ1_charAt_3b067_3 (fun H locs hw => ?_)
  refine W.eq (g2 := F0 m 6 ls []) rfl ?_
  refine lv_aload_n hx hb dJ1_charAt_3b067_6 rfl (lv_at hl 0 rfl) ?_
  refine lv_iload_n hx hb dJ1_charAt_3b067_7 rfl (lv_at hl 1 rfl) ?_
  refine va_tb hx hb (hZ.2.2.1.1 w hi.1).2.2.2 hw.2 (vp_in_iff.mpr hi.2) (v := .int ((mSb.getD w []).getD i.toNatClampNeg 0)) rfl dJ1_charAt_3b067_8 ?_
  refine lv_sipush (v := (255 : Int32)) hx hb dJ1_charAt_3b067_9 (by decide) ?_
  refine lv_iand hx hb dJ1_charAt_3b067_12 ?_
  refine lv_i2c (v := mSc w i) hx hb dJ1_charAt_3b067_13 rfl ?_
  rw [hQm]
  exact mrn hx hb hr (pk_nc _) hlk hw dJ1_charAt_3b067_14
set_option maxHeartbeats 4000000 in
set_option maxRecDepth 100000 in
theorem rJ_charAt (l : Launch) (g : mG) (K : mK) (n : Nat) (hJ : mInj g n) (hO : mOk K n) (w : Nat) (i : Int32) (hi : mSx w i) (I0 : mI) (J0 : mJ) (R0 : mR) : Met l yJ0_charAt_5068e (mWs yJ0_charAt_5068e cJ0_charAt_5068e 2 (some .char)) ({ frames := 3, cells := 0, slots := 0, locals := 64 }) (va_Pc [.ref (g.2.2.2.1 w), .int i] (mB g K n I0 J0 R0)) (mQ g K n (some (.int (mSc w i))) I0 J0 R0) 0 0 (mA g n) := by
  refine mStart RJ0 hJ hO (by decide) rfl (Nat.le_of_ble_eq_true rfl) ?_
  intro p e s m below meth c ls Qm hQm B hr hlk hw hl
  have hx := B.1.1
  have hb := B.1.2.1
  have hZ := B.2.2.2.2
  have hl : lv_has ls 2 [(0, .ref (g.2.2.2.1 w)), (1, .int i)] := hl
  refine lv_aload_n hx hb dJ0_charAt_5068e_0 rfl (lv_at hl 0 rfl) ?_
  refine mcallT (rest := []) B hw [] clJ0_492 hi.1 (rJ_isLatin1 l g K n hJ hO w hi.1 I0 J0 R0) ⟨rfl, rfl, Nat.le_of_ble_eq_true rfl, Nat.le_of_ble_eq_true rfl⟩ rfl hl.1 (Nat.le_of_ble_eq_true rfl) ⟨Nat.zero_le _, Nat.zero_le _⟩ dJ0_charAt_5068e_1 (fun H locs hw => ?_)
  refine W.eq (g2 := F0 m 4 ls [.int 1]) rfl ?_
  refine lv_if_eq (tgt := 16) hx hb dJ0_charAt_5068e_4 (by decide) (fun c => absurd c (by decide)) (fun _ => ?_)
  refine lv_aload_n hx hb dJ0_charAt_5068e_7 rfl (lv_at hl 0 rfl) ?_
  refine vk_getf hx hb (hZ.2.2.1.1 w hi.1).2.2.1 hw.2 B.1.2.2.2.1 (B.1.2.2.2.2 _ jl9) (fun _ h => h) dJ0_charAt_5068e_8 ?_
  refine lv_iload_n hx hb dJ0_charAt_5068e_11 rfl (lv_at hl 1 rfl) ?_
  refine mcallS (rest := []) B hw [.ref (g.2.2.2.2 w), .int i] clJ0_495 (rJ_latChar l g K n hJ hO w i hi I0 J0 R0) ⟨rfl, rfl, Nat.le_of_ble_eq_true rfl, Nat.le_of_ble_eq_true rfl⟩ rfl hl.1 (Nat.le_of_ble_eq_true rfl) ⟨Nat.zero_le _, Nat.zero_le _⟩ dJ0_charAt_5068e_12 (fun H locs hw => ?_)
  refine W.eq (g2 := F0 m 15 ls [.int (mSc w i)]) rfl ?_
  rw [hQm]
  exact mrn hx hb hr (pk_nc _) hlk hw dJ0_charAt_5068e_15
