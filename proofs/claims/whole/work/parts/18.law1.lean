/-! ===== the law's own walk ===== -/
theorem kX_ok : mOk kX 190 := fun a h => by
  by_cases q : a < 190
  · exact q
  · have e : kX a = (99, 0) := by
      unfold kX
      rw [getD_out (by
        have : kXl.length = 190 := by decide +kernel
        omega)]
    rw [e] at h
    exact absurd h (by decide)
theorem kM_ok : mOk kM 17 := fun a h => by
  by_cases q : a < 17
  · exact q
  · have e : kM a = (99, 0) := by
      unfold kM
      rw [getD_out (by show 17 ≤ a; omega)]
    rw [e] at h
    exact absurd h (by decide)
def lFix (p : Program) (m : MethodId) (c : Code) (s : State) (b0 : Nat) (gX gM : mG) : Prop := CallFix p m c cL_law 4 s #[Value.ref b0] mT RL ∧ va_K gX.1 vwCl (mTys gX) s ∧ va_K gM.1 vwCl (mTys gM) s ∧ (∀ i, gX.2.1 i = s.heap.size + i) ∧ (∀ i, gM.2.1 i = s.heap.size + 190 + i) ∧ mZ gX (up s.heap.size) s s.heap ∧ mZ gM (up s.heap.size) s s.heap
def lHp (gX gM : mG) (s : State) (I : mI) (J : mJ) (R : mR) (I' : mI) (J' : mJ) (H : Heap) (locs : List Loc) : Prop := va_P gX.1 vwCl (mws gX kX 190 I J R) H ∧ va_P gM.1 vwCl (mws gM kM 17 I' J' rM) H ∧ va_S (up s.heap.size) s.heap H locs
section LROW
variable {p : Program} {l : Launch} {e : Env} {Rm : Room} {s : State} {m : MethodId} {below : List Frame} {meth : Method} {c : Code} {H : Heap} {locs : List Loc} {cells slots : Nat} {Q : State → Prop}
variable {pc : Nat} {ls : Array Slot} {rest : List Value} {b0 : Nat} {gX gM : mG} {I I' : mI} {J J' : mJ} {R : mR}
theorem lcX {I1 : mI} {J1 : mJ} {R1 : mR} {rv : Option Value} {y : MethodName} {cc' : ByteArray} {mL index : Nat} {ret : Option FieldType} {rm : Room} (B : lFix p m c s b0 gX gM) (hw : lHp gX gM s I J R I' J' H locs) (As : List Value) {st0 : List Value} (V : mCV RL index RX8 y cc' mL ret As.length)
    (hM : Met l y (mWs y cc' mL ret) rm (va_Pc (.ref (gX.2.1 0) :: As) (mB gX kX 190 I J R)) (mQ gX kX 190 rv I1 J1 R1) 0 0 (mA gX 190)) (hrm : rm.cells = 0 ∧ rm.slots = 0 ∧ rm.frames + 1 ≤ Rm.frames ∧ 8 + (mL + 11) + rm.locals ≤ Rm.locals)
    (hst : st0 = As.reverse ++ .ref (gX.2.1 0) :: rest) (hls : ls.size = 4) (hrest : (rest.map fun v => v.category).sum ≤ 8) (hcs : cells ≤ Rm.cells ∧ slots ≤ Rm.slots) (hdg : decode cL_law pc = .ok (.invokevirtual index, 3))
    (kk : ∀ (H1 : Heap) (locs1 : List Loc), lHp gX gM s I1 J1 R1 I' J' H1 locs1 → W p l e Rm s m #[Value.ref b0] below meth c H1 locs1 cells slots Q (F0 m (pc + 3) ls (rv.toList ++ rest))) : W p l e Rm s m #[Value.ref b0] below meth c H locs cells slots Q (F0 m pc ls st0) := by
  obtain ⟨S, hK, hK2, hg, hg2, hZ, hZ2⟩ := B
  obtain ⟨hP, hP2, hS⟩ := hw
  obtain ⟨v1, v2, v3, v4, v5, v6⟩ := V
  have he := mws_at (g := gX) (K := kX) (I := I) (J := J) (R := R) (show 0 < 190 by decide)
  rw [mE0 q0] at he
  have hG : GoodIn mT (wsV RL index RX8 y (mWs y cc' mL ret)) := mT_good (fun w hw => by
    rcases List.mem_append.mp hw with h | h
    · simp only [List.mem_cons, List.not_mem_nil, or_false] at h
      rcases h with rfl | rfl | rfl | rfl <;> assumption
    · exact mWs_in v5 w h)
  have run := va_runV (locs := locs) (below := below) (e := e) (meth := meth) (cells := cells) (slots := slots) (H := H) (As := As) (rest := rest) (b := gX.2.1 0) (g := F0 m pc ls st0) S hM (cwV (n := As.length) S.2.2.2.2 hG rfl hrm.1 hrm.2.1 v6 hrm.2.2) ⟨mB_blind, va_recv hK hP (show vwCl[8]? = some (RX8, TX8, 10) from rfl) he, fun U hU hW => ⟨rfl, by rw [hU]; exact hP, va_K.moved hW.alike hK, (mZ_go hZ hW hU hS.2.1).narrow (mA_up hg)⟩⟩ rfl rfl hls hst (lv_room hrest) hdg hcs
  intro T hT X
  obtain ⟨v, st₀, t, T', L, h0, X', hL, e1, e2, ⟨hv, hP', hz', hk'⟩, st⟩ := run T hT X
  cases hv
  rw [h0] at hz' hk'
  have hkM : va_P gM.1 vwCl (mws gM kM 17 I' J' rM) T'.heap := hP2.kept (fun k q hq => by
    have hk : k < 17 := by
      have := (List.getElem?_eq_some_iff.mp hq).1
      simpa [mws] using this
    have hlt := (hP2 k q hq).lt
    rw [mws_at hk] at hq
    cases hq
    rw [e1]
    refine hk' _ hlt (fun z => ?_)
    obtain ⟨i, hi, ei⟩ := z
    have ei : gM.2.1 k = gX.2.1 i := ei
    rw [hg, hg2] at ei
    omega)
  obtain ⟨t2, a1, b1⟩ := kk T'.heap (locs ++ L) ⟨by rw [e1]; exact hP', hkM, ⟨Nat.le_trans hS.1 (by rw [e1]; exact hz'), fun q h1 h2 => by rw [e1, hk' q (Nat.lt_of_lt_of_le h1 hS.1) (fun z => h2 (mA_up hg q z))]; exact hS.2.1 q h1 h2, fun q hq => by
      rcases List.mem_append.mp hq with h | h
      · exact hS.2.2 q h
      · exact mA_up hg _ (hL q h)⟩⟩ T' rfl X'
  exact ⟨t2, st t2 a1, b1⟩
theorem lcM {I1' : mI} {J1' : mJ} {rv : Option Value} {y : MethodName} {cc' : ByteArray} {mL index : Nat} {ret : Option FieldType} {rm : Room} (B : lFix p m c s b0 gX gM) (hw : lHp gX gM s I J R I' J' H locs) (As : List Value) {st0 : List Value} (V : mCV RL index RX9 y cc' mL ret As.length)
    (hM : Met l y (mWs y cc' mL ret) rm (va_Pc (.ref (gM.2.1 0) :: As) (mB gM kM 17 I' J' rM)) (mQ gM kM 17 rv I1' J1' rM) 0 0 (mA gM 17)) (hrm : rm.cells = 0 ∧ rm.slots = 0 ∧ rm.frames + 1 ≤ Rm.frames ∧ 8 + (mL + 11) + rm.locals ≤ Rm.locals)
    (hst : st0 = As.reverse ++ .ref (gM.2.1 0) :: rest) (hls : ls.size = 4) (hrest : (rest.map fun v => v.category).sum ≤ 8) (hcs : cells ≤ Rm.cells ∧ slots ≤ Rm.slots) (hdg : decode cL_law pc = .ok (.invokevirtual index, 3))
    (kk : ∀ (H1 : Heap) (locs1 : List Loc), lHp gX gM s I J R I1' J1' H1 locs1 → W p l e Rm s m #[Value.ref b0] below meth c H1 locs1 cells slots Q (F0 m (pc + 3) ls (rv.toList ++ rest))) : W p l e Rm s m #[Value.ref b0] below meth c H locs cells slots Q (F0 m pc ls st0) := by
  obtain ⟨S, hK, hK2, hg, hg2, hZ, hZ2⟩ := B
  obtain ⟨hP, hP2, hS⟩ := hw
  obtain ⟨v1, v2, v3, v4, v5, v6⟩ := V
  have he := mws_at (g := gM) (K := kM) (I := I') (J := J') (R := rM) (show 0 < 17 by decide)
  rw [mE0 km0] at he
  have hup : ∀ q, mA gM 17 q → up s.heap.size q := fun q h => by
    obtain ⟨i, -, rfl⟩ := h
    rw [hg2]
    show s.heap.size ≤ s.heap.size + 190 + i
    omega
  have hG : GoodIn mT (wsV RL index RX9 y (mWs y cc' mL ret)) := mT_good (fun w hw => by
    rcases List.mem_append.mp hw with h | h
    · simp only [List.mem_cons, List.not_mem_nil, or_false] at h
      rcases h with rfl | rfl | rfl | rfl <;> assumption
    · exact mWs_in v5 w h)
  have run := va_runV (locs := locs) (below := below) (e := e) (meth := meth) (cells := cells) (slots := slots) (H := H) (As := As) (rest := rest) (b := gM.2.1 0) (g := F0 m pc ls st0) S hM (cwV (n := As.length) S.2.2.2.2 hG rfl hrm.1 hrm.2.1 v6 hrm.2.2) ⟨mB_blind, va_recv hK2 hP2 (show vwCl[9]? = some (RX9, TX9, 23) from rfl) he, fun U hU hW => ⟨rfl, by rw [hU]; exact hP2, va_K.moved hW.alike hK2, (mZ_go hZ2 hW hU hS.2.1).narrow hup⟩⟩ rfl rfl hls hst (lv_room hrest) hdg hcs
  intro T hT X
  obtain ⟨v, st₀, t, T', L, h0, X', hL, e1, e2, ⟨hv, hP', hz', hk'⟩, st⟩ := run T hT X
  cases hv
  rw [h0] at hz' hk'
  have hkX : va_P gX.1 vwCl (mws gX kX 190 I J R) T'.heap := hP.kept (fun k q hq => by
    have hk : k < 190 := by
      have := (List.getElem?_eq_some_iff.mp hq).1
      simpa [mws] using this
    have hlt := (hP k q hq).lt
    rw [mws_at hk] at hq
    cases hq
    rw [e1]
    refine hk' _ hlt (fun z => ?_)
    obtain ⟨i, hi, ei⟩ := z
    have ei : gX.2.1 k = gM.2.1 i := ei
    rw [hg, hg2] at ei
    omega)
  obtain ⟨t2, a1, b1⟩ := kk T'.heap (locs ++ L) ⟨hkX, by rw [e1]; exact hP', ⟨Nat.le_trans hS.1 (by rw [e1]; exact hz'), fun q h1 h2 => by rw [e1, hk' q (Nat.lt_of_lt_of_le h1 hS.1) (fun z => h2 (hup q z))]; exact hS.2.1 q h1 h2, fun q hq => by
      rcases List.mem_append.mp hq with h | h
      · exact hS.2.2 q h
      · exact hup _ (hL q h)⟩⟩ T' rfl X'
  exact ⟨t2, st t2 a1, b1⟩
/-- an argument out of the script -/
theorem l_arg {L i k : Nat} {xs : Nat → Int32} (hx : p.tables.exec = Jvm.exec) (hb : c.code = cL_law) (hX : va_X b0 L xs s s.heap) (hbl : b0 < s.heap.size) (hS : va_S (up s.heap.size) s.heap H locs) (hl : lv_has ls 4 [(3, .int (nI i)), (2, .ref (gM.2.1 0)), (1, .ref (gX.2.1 0)), (0, .ref b0)]) (hL : L ≤ 3072) (hi : i + k < L) {kz : Int} (hk : Int32.ofInt kz = nI k)
    (d1 : decode cL_law pc = .ok (.aload_n 0, 1)) (d2 : decode cL_law (pc + 1) = .ok (.iload_n 3, 1)) (d3 : decode cL_law (pc + 2) = .ok (.iconst kz, 1)) (d4 : decode cL_law (pc + 3) = .ok (.iadd, 1)) (d5 : decode cL_law (pc + 4) = .ok (.iaload, 1))
    (kk : W p l e Rm s m #[Value.ref b0] below meth c H locs cells slots Q (F0 m (pc + 5) ls (.int (xs (i + k)) :: rest))) : W p l e Rm s m #[Value.ref b0] below meth c H locs cells slots Q (F0 m pc ls rest) := by
  refine lv_aload_n hx hb d1 rfl (lv_at hl 3 rfl) ?_
  refine lv_iload_n hx hb d2 rfl (lv_at hl 0 rfl) ?_
  refine lv_iconst (v := nI k) hx hb d3 hk ?_
  refine lv_iadd hx hb d4 ?_
  rw [nI_add]
  refine va_sld hx hb hX hbl (A := up s.heap.size) (Nat.not_le.mpr hbl) hS (L := L) (vp_in_iff.mpr ⟨by rw [nI_toInt (by omega)]; omega, by rw [nI_toInt (by omega)]; omega⟩) d5 ?_
  rw [nI_c (show i + k < 2 ^ 31 by omega)]
  exact kk
end LROW
