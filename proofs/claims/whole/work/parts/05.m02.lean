def f_X3_weighMarks_L5 (K : mK) (v0 : Nat) (v1 : Nat) (v2 : Nat) (I0 : mI) (J0 : mJ) (R0 : mR) : Nat → Int32 → Int32 → Option Int32
  | 0, _, _ => none
  | N + 1, v3, v4 =>
  if (4 : Int32) ≤ v4 then
  some v3
  else
  if K v1 = (0, 1) then
  (R0 v1 5).bind fun x3 =>
  if mIx K x3 1 v4 then
  if (I0 x3 (v4).toNatClampNeg) = 0 then
  f_X3_weighMarks_L5 K v0 v1 v2 I0 J0 R0 N v3 (v4 + (1 : Int32))
  else
  if K v2 = (0, 1) then
  (R0 v2 5).bind fun x8 =>
  if mIx K x8 1 v4 then
  if (I0 x8 (v4).toNatClampNeg) = 0 then
  f_X3_weighMarks_L5 K v0 v1 v2 I0 J0 R0 N v3 (v4 + (1 : Int32))
  else
  if (I0 x3 (v4).toNatClampNeg) = (I0 x8 (v4).toNatClampNeg) then
  if K v0 = (0, 3) then
  (R0 v0 1).bind fun x18 =>
  if mIx K x18 1 v4 then
  f_X3_weighMarks_L5 K v0 v1 v2 I0 J0 R0 N (v3 + (I0 x18 (v4).toNatClampNeg)) (v4 + (1 : Int32))
  else none
  else none
  else
  if K v0 = (0, 3) then
  (R0 v0 1).bind fun x14 =>
  if mIx K x14 1 v4 then
  f_X3_weighMarks_L5 K v0 v1 v2 I0 J0 R0 N (v3 + (-(I0 x14 (v4).toNatClampNeg))) (v4 + (1 : Int32))
  else none
  else none
  else none
  else none
  else none
  else none
def f_X3_weighMarks (K : mK) (a0 : Nat) (a1 : Nat) (a2 : Nat) (I0 : mI) (J0 : mJ) (R0 : mR) : Option Int32 :=
  (f_X3_weighMarks_L5 K a0 a1 a2 I0 J0 R0 8192 (0 : Int32) (0 : Int32)).bind fun z21 =>
  some z21
set_option maxHeartbeats 4000000 in
set_option maxRecDepth 100000 in
theorem r_X3_weighMarks (l : Launch) (g : mG) (K : mK) (n : Nat) (hJ : mInj g n) (hO : mOk K n) (a0 : Nat) (a1 : Nat) (a2 : Nat) (I0 : mI) (J0 : mJ) (R0 : mR) (out : Int32) (hf : f_X3_weighMarks K a0 a1 a2 I0 J0 R0 = some out) : Met l yX3_weighMarks (mWs yX3_weighMarks cX3_weighMarks 5 (some .int)) ({ frames := 0, cells := 0, slots := 0, locals := 0 }) (va_Pc [.ref (g.2.1 a0), .ref (g.2.1 a1), .ref (g.2.1 a2)] (mB g K n I0 J0 R0)) (mQ g K n (some (.int out)) I0 J0 R0) 0 0 (mA g n) := by
  unfold f_X3_weighMarks at hf
  refine mStart RX3 hJ hO (by decide) rfl (Nat.le_of_ble_eq_true rfl) ?_
  intro p e s m below meth c ls Qm hQm B hr hlk hw hl
  have hx := B.1.1
  have hb := B.1.2.1
  have hl : lv_has ls 5 [(0, .ref (g.2.1 a0)), (1, .ref (g.2.1 a1)), (2, .ref (g.2.1 a2))] := hl
  have L5 : ∀ (N : Nat) (v0 : Nat) (v1 : Nat) (v2 : Nat) (v3 : Int32) (v4 : Int32) (z : Int32) (H : Heap) (locs : List Loc) (ls : Array Slot), f_X3_weighMarks_L5 K v0 v1 v2 I0 J0 R0 N v3 v4 = some z → mHp g K n s I0 J0 R0 H locs → lv_has ls 5 [(0, .ref (g.2.1 v0)), (1, .ref (g.2.1 v1)), (2, .ref (g.2.1 v2)), (3, .int v3), (4, .int v4)] → (∀ (H : Heap) (locs : List Loc) (ls : Array Slot), mHp g K n s I0 J0 R0 H locs → lv_has ls 5 [(3, .int z)] → W p l e ({ frames := 0, cells := 0, slots := 0, locals := 0 } : Room) s m ([.ref (g.2.1 a0), .ref (g.2.1 a1), .ref (g.2.1 a2)] : List Value).toArray below meth c H locs 0 0 Qm (F0 m 75 ls [])) → W p l e ({ frames := 0, cells := 0, slots := 0, locals := 0 } : Room) s m ([.ref (g.2.1 a0), .ref (g.2.1 a1), .ref (g.2.1 a2)] : List Value).toArray below meth c H locs 0 0 Qm (F0 m 5 ls []) := by
    intro N
    induction N with
    | zero =>
      intro v0 v1 v2 v3 v4  z H locs ls hf hw hl kx
      rw [f_X3_weighMarks_L5] at hf
      cases hf
    | succ N ih =>
      intro v0 v1 v2 v3 v4  z H locs ls hf hw hl kx
      rw [f_X3_weighMarks_L5] at hf
      refine lv_iload hx hb dX3_weighMarks_5 (lv_at hl 4 rfl) ?_
      refine lv_iconst (v := (4 : Int32)) hx hb dX3_weighMarks_7 (by decide) ?_
      refine lv_icmp_ge (tgt := 75) hx hb dX3_weighMarks_8 (by decide) (fun c1 => ?_) (fun c1 => ?_)
      · replace hf := mT1 c1 hf
        obtain rfl := Option.some.inj hf
        exact kx _ _ _ hw (lv_sub hl [3] rfl)
      · replace hf := mF1 c1 hf
        refine lv_aload_n hx hb dX3_weighMarks_11 rfl (lv_at hl 1 rfl) ?_
        obtain ⟨h2, hf⟩ := mChk hf
        obtain ⟨x3, e4, hf⟩ := mBind hf
        refine mgr B hw flX3_51 rfl h2 e4 dX3_weighMarks_12 ?_
        refine lv_iload hx hb dX3_weighMarks_15 (lv_at hl 4 rfl) ?_
        obtain ⟨h5, hf⟩ := mChk hf
        refine mld1 B hw h5 dX3_weighMarks_17 ?_
        refine lv_if_eq (tgt := 69) hx hb dX3_weighMarks_18 (by decide) (fun c6 => ?_) (fun c6 => ?_)
        · replace hf := mT1 c6 hf
          refine lv_iinc (v := (v4 + (1 : Int32))) (lv' := [(4, .int (v4 + (1 : Int32))), (0, .ref (g.2.1 v0)), (1, .ref (g.2.1 v1)), (2, .ref (g.2.1 v2)), (3, .int v3)]) hx hb dX3_weighMarks_69 hl (k := 4) rfl rfl (by decide) rfl (fun ls hl => ?_)
          refine lv_goto (tgt := 5) hx hb dX3_weighMarks_72 (by decide) ?_
          exact ih v0 v1 v2 v3 (v4 + (1 : Int32)) z _ _ _ hf hw (lv_sub hl [1, 2, 3, 4, 0] rfl) kx
        · replace hf := mF1 c6 hf
          refine lv_aload_n hx hb dX3_weighMarks_21 rfl (lv_at hl 2 rfl) ?_
          obtain ⟨h7, hf⟩ := mChk hf
          obtain ⟨x8, e9, hf⟩ := mBind hf
          refine mgr B hw flX3_51 rfl h7 e9 dX3_weighMarks_22 ?_
          refine lv_iload hx hb dX3_weighMarks_25 (lv_at hl 4 rfl) ?_
          obtain ⟨h10, hf⟩ := mChk hf
          refine mld1 B hw h10 dX3_weighMarks_27 ?_
          refine lv_if_eq (tgt := 69) hx hb dX3_weighMarks_28 (by decide) (fun c11 => ?_) (fun c11 => ?_)
          · replace hf := mT1 c11 hf
            refine lv_iinc (v := (v4 + (1 : Int32))) (lv' := [(4, .int (v4 + (1 : Int32))), (0, .ref (g.2.1 v0)), (1, .ref (g.2.1 v1)), (2, .ref (g.2.1 v2)), (3, .int v3)]) hx hb dX3_weighMarks_69 hl (k := 4) rfl rfl (by decide) rfl (fun ls hl => ?_)
            refine lv_goto (tgt := 5) hx hb dX3_weighMarks_72 (by decide) ?_
            exact ih v0 v1 v2 v3 (v4 + (1 : Int32)) z _ _ _ hf hw (lv_sub hl [1, 2, 3, 4, 0] rfl) kx
          · replace hf := mF1 c11 hf
            refine lv_iload_n hx hb dX3_weighMarks_31 rfl (lv_at hl 3 rfl) ?_
            refine lv_aload_n hx hb dX3_weighMarks_32 rfl (lv_at hl 1 rfl) ?_
            refine mgr B hw flX3_51 rfl h2 e4 dX3_weighMarks_33 ?_
            refine lv_iload hx hb dX3_weighMarks_36 (lv_at hl 4 rfl) ?_
            refine mld1 B hw h5 dX3_weighMarks_38 ?_
            refine lv_aload_n hx hb dX3_weighMarks_39 rfl (lv_at hl 2 rfl) ?_
            refine mgr B hw flX3_51 rfl h7 e9 dX3_weighMarks_40 ?_
            refine lv_iload hx hb dX3_weighMarks_43 (lv_at hl 4 rfl) ?_
            refine mld1 B hw h10 dX3_weighMarks_45 ?_
            refine lv_icmp_ne (tgt := 59) hx hb dX3_weighMarks_46 (by decide) (fun c12 => ?_) (fun c12 => ?_)
            · replace hf := mF1 c12 hf
              refine lv_aload_n hx hb dX3_weighMarks_59 rfl (lv_at hl 0 rfl) ?_
              obtain ⟨h13, hf⟩ := mChk hf
              obtain ⟨x14, e15, hf⟩ := mBind hf
              refine mgr B hw flX3_15 rfl h13 e15 dX3_weighMarks_60 ?_
              refine lv_iload hx hb dX3_weighMarks_63 (lv_at hl 4 rfl) ?_
              obtain ⟨h16, hf⟩ := mChk hf
              refine mld1 B hw h16 dX3_weighMarks_65 ?_
              refine lv_ineg hx hb dX3_weighMarks_66 ?_
              refine lv_iadd hx hb dX3_weighMarks_67 ?_
              refine lv_istore_n (lv' := [(3, .int (v3 + (-(I0 x14 (v4).toNatClampNeg)))), (0, .ref (g.2.1 v0)), (1, .ref (g.2.1 v1)), (2, .ref (g.2.1 v2)), (4, .int v4)]) hx hb dX3_weighMarks_68 rfl hl (by decide) rfl (fun ls hl => ?_)
              refine lv_iinc (v := (v4 + (1 : Int32))) (lv' := [(4, .int (v4 + (1 : Int32))), (3, .int (v3 + (-(I0 x14 (v4).toNatClampNeg)))), (0, .ref (g.2.1 v0)), (1, .ref (g.2.1 v1)), (2, .ref (g.2.1 v2))]) hx hb dX3_weighMarks_69 hl (k := 4) rfl rfl (by decide) rfl (fun ls hl => ?_)
              refine lv_goto (tgt := 5) hx hb dX3_weighMarks_72 (by decide) ?_
              exact ih v0 v1 v2 (v3 + (-(I0 x14 (v4).toNatClampNeg))) (v4 + (1 : Int32)) z _ _ _ hf hw (lv_sub hl [2, 3, 4, 1, 0] rfl) kx
            · replace hf := mT1 c12 hf
              refine lv_aload_n hx hb dX3_weighMarks_49 rfl (lv_at hl 0 rfl) ?_
              obtain ⟨h17, hf⟩ := mChk hf
              obtain ⟨x18, e19, hf⟩ := mBind hf
              refine mgr B hw flX3_15 rfl h17 e19 dX3_weighMarks_50 ?_
              refine lv_iload hx hb dX3_weighMarks_53 (lv_at hl 4 rfl) ?_
              obtain ⟨h20, hf⟩ := mChk hf
              refine mld1 B hw h20 dX3_weighMarks_55 ?_
              refine lv_goto (tgt := 67) hx hb dX3_weighMarks_56 (by decide) ?_
              refine lv_iadd hx hb dX3_weighMarks_67 ?_
              refine lv_istore_n (lv' := [(3, .int (v3 + (I0 x18 (v4).toNatClampNeg))), (0, .ref (g.2.1 v0)), (1, .ref (g.2.1 v1)), (2, .ref (g.2.1 v2)), (4, .int v4)]) hx hb dX3_weighMarks_68 rfl hl (by decide) rfl (fun ls hl => ?_)
              refine lv_iinc (v := (v4 + (1 : Int32))) (lv' := [(4, .int (v4 + (1 : Int32))), (3, .int (v3 + (I0 x18 (v4).toNatClampNeg))), (0, .ref (g.2.1 v0)), (1, .ref (g.2.1 v1)), (2, .ref (g.2.1 v2))]) hx hb dX3_weighMarks_69 hl (k := 4) rfl rfl (by decide) rfl (fun ls hl => ?_)
              refine lv_goto (tgt := 5) hx hb dX3_weighMarks_72 (by decide) ?_
              exact ih v0 v1 v2 (v3 + (I0 x18 (v4).toNatClampNeg)) (v4 + (1 : Int32)) z _ _ _ hf hw (lv_sub hl [2, 3, 4, 1, 0] rfl) kx
  refine lv_iconst (v := (0 : Int32)) hx hb dX3_weighMarks_0 (by decide) ?_
  refine lv_istore_n (lv' := [(3, .int (0 : Int32)), (0, .ref (g.2.1 a0)), (1, .ref (g.2.1 a1)), (2, .ref (g.2.1 a2))]) hx hb dX3_weighMarks_1 rfl hl (by decide) rfl (fun ls hl => ?_)
  refine lv_iconst (v := (0 : Int32)) hx hb dX3_weighMarks_2 (by decide) ?_
  refine lv_istore (lv' := [(4, .int (0 : Int32)), (3, .int (0 : Int32)), (0, .ref (g.2.1 a0)), (1, .ref (g.2.1 a1)), (2, .ref (g.2.1 a2))]) hx hb dX3_weighMarks_3 hl (by decide) rfl (fun ls hl => ?_)
  obtain ⟨z21, e22, hf⟩ := mBind hf
  refine L5 8192 a0 a1 a2 (0 : Int32) (0 : Int32) z21 _ _ _ e22 hw (lv_sub hl [2, 3, 4, 1, 0] rfl) (fun H locs ls hw hl => ?_)
  refine lv_iload_n hx hb dX3_weighMarks_75 rfl (lv_at hl 0 rfl) ?_
  rw [hQm, ← Option.some.inj hf]
  exact mri hx hb hr hlk hw dX3_weighMarks_76
def f_X3_weighSheets_L5 (K : mK) (v0 : Nat) (v1 : Nat) (v2 : Nat) (I0 : mI) (J0 : mJ) (R0 : mR) : Nat → Int32 → Int32 → Option Int32
  | 0, _, _ => none
  | N + 1, v3, v4 =>
  if (3 : Int32) ≤ v4 then
  some v3
  else
  if K v1 = (0, 1) then
  (R0 v1 6).bind fun x3 =>
  if mIx K x3 1 v4 then
  (f_X8_within K (I0 x3 (v4).toNatClampNeg) (11 : Int32) (99 : Int32) I0 J0 R0).bind fun z6 =>
  if (mb z6) = 0 then
  f_X3_weighSheets_L5 K v0 v1 v2 I0 J0 R0 N v3 (v4 + (1 : Int32))
  else
  if K v2 = (0, 1) then
  (R0 v2 6).bind fun x10 =>
  if mIx K x10 1 v4 then
  if (I0 x10 (v4).toNatClampNeg) = 0 then
  (R0 v2 7).bind fun x14 =>
  if mIx K x14 1 v4 then
  if (I0 x14 (v4).toNatClampNeg) = 0 then
  f_X3_weighSheets_L5 K v0 v1 v2 I0 J0 R0 N v3 (v4 + (1 : Int32))
  else
  if K v0 = (0, 3) then
  (R0 v0 3).bind fun x19 =>
  if mIx K x19 1 (0 : Int32) then
  f_X3_weighSheets_L5 K v0 v1 v2 I0 J0 R0 N (v3 + (I0 x19 ((0 : Int32)).toNatClampNeg)) (v4 + (1 : Int32))
  else none
  else none
  else none
  else
  if K v0 = (0, 3) then
  (R0 v0 2).bind fun x23 =>
  if mIx K x23 1 ((I0 x3 (v4).toNatClampNeg) / (10 : Int32)) then
  if mIx K x23 1 ((I0 x3 (v4).toNatClampNeg) - (I0 x3 (v4).toNatClampNeg) / (10 : Int32) * (10 : Int32)) then
  (some (v3 + ((I0 x23 (((I0 x3 (v4).toNatClampNeg) / (10 : Int32))).toNatClampNeg) + (I0 x23 (((I0 x3 (v4).toNatClampNeg) - (I0 x3 (v4).toNatClampNeg) / (10 : Int32) * (10 : Int32))).toNatClampNeg)))).bind fun y27 =>
  (R0 v2 7).bind fun x29 =>
  if mIx K x29 1 v4 then
  if (I0 x29 (v4).toNatClampNeg) = 0 then
  f_X3_weighSheets_L5 K v0 v1 v2 I0 J0 R0 N y27 (v4 + (1 : Int32))
  else
  (R0 v0 3).bind fun x33 =>
  if mIx K x33 1 (0 : Int32) then
  f_X3_weighSheets_L5 K v0 v1 v2 I0 J0 R0 N (y27 + (I0 x33 ((0 : Int32)).toNatClampNeg)) (v4 + (1 : Int32))
  else none
  else none
  else none
  else none
  else none
  else none
  else none
  else none
  else none
def f_X3_weighSheets (K : mK) (a0 : Nat) (a1 : Nat) (a2 : Nat) (I0 : mI) (J0 : mJ) (R0 : mR) : Option Int32 :=
  (f_X3_weighSheets_L5 K a0 a1 a2 I0 J0 R0 8192 (0 : Int32) (0 : Int32)).bind fun z36 =>
  some z36
set_option maxHeartbeats 4000000 in
set_option maxRecDepth 100000 in
theorem r_X3_weighSheets (l : Launch) (g : mG) (K : mK) (n : Nat) (hJ : mInj g n) (hO : mOk K n) (a0 : Nat) (a1 : Nat) (a2 : Nat) (I0 : mI) (J0 : mJ) (R0 : mR) (out : Int32) (hf : f_X3_weighSheets K a0 a1 a2 I0 J0 R0 = some out) : Met l yX3_weighSheets (mWs yX3_weighSheets cX3_weighSheets 6 (some .int)) ({ frames := 1, cells := 0, slots := 0, locals := 22 }) (va_Pc [.ref (g.2.1 a0), .ref (g.2.1 a1), .ref (g.2.1 a2)] (mB g K n I0 J0 R0)) (mQ g K n (some (.int out)) I0 J0 R0) 0 0 (mA g n) := by
  unfold f_X3_weighSheets at hf
  refine mStart RX3 hJ hO (by decide) rfl (Nat.le_of_ble_eq_true rfl) ?_
  intro p e s m below meth c ls Qm hQm B hr hlk hw hl
  have hx := B.1.1
  have hb := B.1.2.1
  have hl : lv_has ls 6 [(0, .ref (g.2.1 a0)), (1, .ref (g.2.1 a1)), (2, .ref (g.2.1 a2))] := hl
  have L5 : ∀ (N : Nat) (v0 : Nat) (v1 : Nat) (v2 : Nat) (v3 : Int32) (v4 : Int32) (z : Int32) (H : Heap) (locs : List Loc) (ls : Array Slot), f_X3_weighSheets_L5 K v0 v1 v2 I0 J0 R0 N v3 v4 = some z → mHp g K n s I0 J0 R0 H locs → lv_has ls 6 [(0, .ref (g.2.1 v0)), (1, .ref (g.2.1 v1)), (2, .ref (g.2.1 v2)), (3, .int v3), (4, .int v4)] → (∀ (H : Heap) (locs : List Loc) (ls : Array Slot), mHp g K n s I0 J0 R0 H locs → lv_has ls 6 [(3, .int z)] → W p l e ({ frames := 1, cells := 0, slots := 0, locals := 22 } : Room) s m ([.ref (g.2.1 a0), .ref (g.2.1 a1), .ref (g.2.1 a2)] : List Value).toArray below meth c H locs 0 0 Qm (F0 m 94 ls [])) → W p l e ({ frames := 1, cells := 0, slots := 0, locals := 22 } : Room) s m ([.ref (g.2.1 a0), .ref (g.2.1 a1), .ref (g.2.1 a2)] : List Value).toArray below meth c H locs 0 0 Qm (F0 m 5 ls []) := by
    intro N
    induction N with
    | zero =>
      intro v0 v1 v2 v3 v4  z H locs ls hf hw hl kx
      rw [f_X3_weighSheets_L5] at hf
      cases hf
    | succ N ih =>
      intro v0 v1 v2 v3 v4  z H locs ls hf hw hl kx
      rw [f_X3_weighSheets_L5] at hf
      refine lv_iload hx hb dX3_weighSheets_5 (lv_at hl 4 rfl) ?_
      refine lv_iconst (v := (3 : Int32)) hx hb dX3_weighSheets_7 (by decide) ?_
      refine lv_icmp_ge (tgt := 94) hx hb dX3_weighSheets_8 (by decide) (fun c1 => ?_) (fun c1 => ?_)
      · replace hf := mT1 c1 hf
        obtain rfl := Option.some.inj hf
        exact kx _ _ _ hw (lv_sub hl [3] rfl)
      · replace hf := mF1 c1 hf
        refine lv_aload_n hx hb dX3_weighSheets_11 rfl (lv_at hl 1 rfl) ?_
        obtain ⟨h2, hf⟩ := mChk hf
        obtain ⟨x3, e4, hf⟩ := mBind hf
        refine mgr B hw flX3_54 rfl h2 e4 dX3_weighSheets_12 ?_
        refine lv_iload hx hb dX3_weighSheets_15 (lv_at hl 4 rfl) ?_
        obtain ⟨h5, hf⟩ := mChk hf
        refine mld1 B hw h5 dX3_weighSheets_17 ?_
        refine lv_istore (lv' := [(5, .int (I0 x3 (v4).toNatClampNeg)), (0, .ref (g.2.1 v0)), (1, .ref (g.2.1 v1)), (2, .ref (g.2.1 v2)), (3, .int v3), (4, .int v4)]) hx hb dX3_weighSheets_18 hl (by decide) rfl (fun ls hl => ?_)
        refine lv_iload hx hb dX3_weighSheets_20 (lv_at hl 0 rfl) ?_
        refine lv_bipush (v := (11 : Int32)) hx hb dX3_weighSheets_22 (by decide) ?_
        refine lv_bipush (v := (99 : Int32)) hx hb dX3_weighSheets_24 (by decide) ?_
        obtain ⟨z6, e7, hf⟩ := mBind hf
        refine mcallN (rest := []) B hw [.int (I0 x3 (v4).toNatClampNeg), .int (11 : Int32), .int (99 : Int32)] clX3_47 (r_X8_within l g K n hJ hO (I0 x3 (v4).toNatClampNeg) (11 : Int32) (99 : Int32) I0 J0 R0 z6 e7) ⟨rfl, rfl, Nat.le_of_ble_eq_true rfl, Nat.le_of_ble_eq_true rfl⟩ rfl hl.1 (Nat.le_of_ble_eq_true rfl) ⟨Nat.zero_le _, Nat.zero_le _⟩ dX3_weighSheets_26 (fun H locs hw => ?_)
        refine W.eq (g2 := F0 m 29 ls [.int (mb z6)]) rfl ?_
        refine lv_if_ne (tgt := 35) hx hb dX3_weighSheets_29 (by decide) (fun c8 => ?_) (fun c8 => ?_)
        · replace hf := mF1 c8 hf
          refine lv_aload_n hx hb dX3_weighSheets_35 rfl (lv_at hl 3 rfl) ?_
          obtain ⟨h9, hf⟩ := mChk hf
          obtain ⟨x10, e11, hf⟩ := mBind hf
          refine mgr B hw flX3_54 rfl h9 e11 dX3_weighSheets_36 ?_
          refine lv_iload hx hb dX3_weighSheets_39 (lv_at hl 5 rfl) ?_
          obtain ⟨h12, hf⟩ := mChk hf
          refine mld1 B hw h12 dX3_weighSheets_41 ?_
          refine lv_if_eq (tgt := 69) hx hb dX3_weighSheets_42 (by decide) (fun c13 => ?_) (fun c13 => ?_)
          · replace hf := mT1 c13 hf
            refine lv_aload_n hx hb dX3_weighSheets_69 rfl (lv_at hl 3 rfl) ?_
            obtain ⟨x14, e15, hf⟩ := mBind hf
            refine mgr B hw flX3_57 rfl h9 e15 dX3_weighSheets_70 ?_
            refine lv_iload hx hb dX3_weighSheets_73 (lv_at hl 5 rfl) ?_
            obtain ⟨h16, hf⟩ := mChk hf
            refine mld1 B hw h16 dX3_weighSheets_75 ?_
            refine lv_if_eq (tgt := 88) hx hb dX3_weighSheets_76 (by decide) (fun c17 => ?_) (fun c17 => ?_)
            · replace hf := mT1 c17 hf
              refine lv_iinc (v := (v4 + (1 : Int32))) (lv' := [(4, .int (v4 + (1 : Int32))), (5, .int (I0 x3 (v4).toNatClampNeg)), (0, .ref (g.2.1 v0)), (1, .ref (g.2.1 v1)), (2, .ref (g.2.1 v2)), (3, .int v3)]) hx hb dX3_weighSheets_88 hl (k := 5) rfl rfl (by decide) rfl (fun ls hl => ?_)
              refine lv_goto (tgt := 5) hx hb dX3_weighSheets_91 (by decide) ?_
              exact ih v0 v1 v2 v3 (v4 + (1 : Int32)) z _ _ _ hf hw (lv_sub hl [2, 3, 4, 5, 0] rfl) kx
            · replace hf := mF1 c17 hf
              refine lv_iload_n hx hb dX3_weighSheets_79 rfl (lv_at hl 4 rfl) ?_
              refine lv_aload_n hx hb dX3_weighSheets_80 rfl (lv_at hl 1 rfl) ?_
              obtain ⟨h18, hf⟩ := mChk hf
              obtain ⟨x19, e20, hf⟩ := mBind hf
              refine mgr B hw flX3_21 rfl h18 e20 dX3_weighSheets_81 ?_
              refine lv_iconst (v := (0 : Int32)) hx hb dX3_weighSheets_84 (by decide) ?_
              obtain ⟨h21, hf⟩ := mChk hf
              refine mld1 B hw h21 dX3_weighSheets_85 ?_
              refine lv_iadd hx hb dX3_weighSheets_86 ?_
              refine lv_istore_n (lv' := [(3, .int (v3 + (I0 x19 ((0 : Int32)).toNatClampNeg))), (5, .int (I0 x3 (v4).toNatClampNeg)), (0, .ref (g.2.1 v0)), (1, .ref (g.2.1 v1)), (2, .ref (g.2.1 v2)), (4, .int v4)]) hx hb dX3_weighSheets_87 rfl hl (by decide) rfl (fun ls hl => ?_)
              refine lv_iinc (v := (v4 + (1 : Int32))) (lv' := [(4, .int (v4 + (1 : Int32))), (3, .int (v3 + (I0 x19 ((0 : Int32)).toNatClampNeg))), (5, .int (I0 x3 (v4).toNatClampNeg)), (0, .ref (g.2.1 v0)), (1, .ref (g.2.1 v1)), (2, .ref (g.2.1 v2))]) hx hb dX3_weighSheets_88 hl (k := 5) rfl rfl (by decide) rfl (fun ls hl => ?_)
              refine lv_goto (tgt := 5) hx hb dX3_weighSheets_91 (by decide) ?_
              exact ih v0 v1 v2 (v3 + (I0 x19 ((0 : Int32)).toNatClampNeg)) (v4 + (1 : Int32)) z _ _ _ hf hw (lv_sub hl [3, 4, 5, 1, 0] rfl) kx
          · replace hf := mF1 c13 hf
            refine lv_iload_n hx hb dX3_weighSheets_45 rfl (lv_at hl 4 rfl) ?_
            refine lv_aload_n hx hb dX3_weighSheets_46 rfl (lv_at hl 1 rfl) ?_
            obtain ⟨h22, hf⟩ := mChk hf
            obtain ⟨x23, e24, hf⟩ := mBind hf
            refine mgr B hw flX3_18 rfl h22 e24 dX3_weighSheets_47 ?_
            refine lv_iload hx hb dX3_weighSheets_50 (lv_at hl 0 rfl) ?_
            refine lv_bipush (v := (10 : Int32)) hx hb dX3_weighSheets_52 (by decide) ?_
            refine lv_idiv hx hb dX3_weighSheets_54 (by decide) ?_
            obtain ⟨h25, hf⟩ := mChk hf
            refine mld1 B hw h25 dX3_weighSheets_55 ?_
            refine lv_aload_n hx hb dX3_weighSheets_56 rfl (lv_at hl 1 rfl) ?_
            refine mgr B hw flX3_18 rfl h22 e24 dX3_weighSheets_57 ?_
            refine lv_iload hx hb dX3_weighSheets_60 (lv_at hl 0 rfl) ?_
            refine lv_bipush (v := (10 : Int32)) hx hb dX3_weighSheets_62 (by decide) ?_
            refine lv_irem hx hb dX3_weighSheets_64 (by decide) ?_
            obtain ⟨h26, hf⟩ := mChk hf
            refine mld1 B hw h26 dX3_weighSheets_65 ?_
            refine lv_iadd hx hb dX3_weighSheets_66 ?_
            refine lv_iadd hx hb dX3_weighSheets_67 ?_
            obtain ⟨y27, e28, hf⟩ := mLet hf
            rw [← e28]
            refine lv_istore_n (lv' := [(3, .int y27), (5, .int (I0 x3 (v4).toNatClampNeg)), (0, .ref (g.2.1 v0)), (1, .ref (g.2.1 v1)), (2, .ref (g.2.1 v2)), (4, .int v4)]) hx hb dX3_weighSheets_68 rfl hl (by decide) rfl (fun ls hl => ?_)
            refine lv_aload_n hx hb dX3_weighSheets_69 rfl (lv_at hl 4 rfl) ?_
            obtain ⟨x29, e30, hf⟩ := mBind hf
            refine mgr B hw flX3_57 rfl h9 e30 dX3_weighSheets_70 ?_
            refine lv_iload hx hb dX3_weighSheets_73 (lv_at hl 5 rfl) ?_
            obtain ⟨h31, hf⟩ := mChk hf
            refine mld1 B hw h31 dX3_weighSheets_75 ?_
            refine lv_if_eq (tgt := 88) hx hb dX3_weighSheets_76 (by decide) (fun c32 => ?_) (fun c32 => ?_)
            · replace hf := mT1 c32 hf
              refine lv_iinc (v := (v4 + (1 : Int32))) (lv' := [(4, .int (v4 + (1 : Int32))), (3, .int y27), (5, .int (I0 x3 (v4).toNatClampNeg)), (0, .ref (g.2.1 v0)), (1, .ref (g.2.1 v1)), (2, .ref (g.2.1 v2))]) hx hb dX3_weighSheets_88 hl (k := 5) rfl rfl (by decide) rfl (fun ls hl => ?_)
              refine lv_goto (tgt := 5) hx hb dX3_weighSheets_91 (by decide) ?_
              exact ih v0 v1 v2 y27 (v4 + (1 : Int32)) z _ _ _ hf hw (lv_sub hl [3, 4, 5, 1, 0] rfl) kx
            · replace hf := mF1 c32 hf
              refine lv_iload_n hx hb dX3_weighSheets_79 rfl (lv_at hl 0 rfl) ?_
              refine lv_aload_n hx hb dX3_weighSheets_80 rfl (lv_at hl 2 rfl) ?_
              obtain ⟨x33, e34, hf⟩ := mBind hf
              refine mgr B hw flX3_21 rfl h22 e34 dX3_weighSheets_81 ?_
              refine lv_iconst (v := (0 : Int32)) hx hb dX3_weighSheets_84 (by decide) ?_
              obtain ⟨h35, hf⟩ := mChk hf
              refine mld1 B hw h35 dX3_weighSheets_85 ?_
              refine lv_iadd hx hb dX3_weighSheets_86 ?_
              refine lv_istore_n (lv' := [(3, .int (y27 + (I0 x33 ((0 : Int32)).toNatClampNeg))), (5, .int (I0 x3 (v4).toNatClampNeg)), (0, .ref (g.2.1 v0)), (1, .ref (g.2.1 v1)), (2, .ref (g.2.1 v2)), (4, .int v4)]) hx hb dX3_weighSheets_87 rfl hl (by decide) rfl (fun ls hl => ?_)
              refine lv_iinc (v := (v4 + (1 : Int32))) (lv' := [(4, .int (v4 + (1 : Int32))), (3, .int (y27 + (I0 x33 ((0 : Int32)).toNatClampNeg))), (5, .int (I0 x3 (v4).toNatClampNeg)), (0, .ref (g.2.1 v0)), (1, .ref (g.2.1 v1)), (2, .ref (g.2.1 v2))]) hx hb dX3_weighSheets_88 hl (k := 5) rfl rfl (by decide) rfl (fun ls hl => ?_)
              refine lv_goto (tgt := 5) hx hb dX3_weighSheets_91 (by decide) ?_
              exact ih v0 v1 v2 (y27 + (I0 x33 ((0 : Int32)).toNatClampNeg)) (v4 + (1 : Int32)) z _ _ _ hf hw (lv_sub hl [3, 4, 5, 1, 0] rfl) kx
        · replace hf := mT1 c8 hf
          refine lv_goto (tgt := 88) hx hb dX3_weighSheets_32 (by decide) ?_
          refine lv_iinc (v := (v4 + (1 : Int32))) (lv' := [(4, .int (v4 + (1 : Int32))), (5, .int (I0 x3 (v4).toNatClampNeg)), (0, .ref (g.2.1 v0)), (1, .ref (g.2.1 v1)), (2, .ref (g.2.1 v2)), (3, .int v3)]) hx hb dX3_weighSheets_88 hl (k := 5) rfl rfl (by decide) rfl (fun ls hl => ?_)
          refine lv_goto (tgt := 5) hx hb dX3_weighSheets_91 (by decide) ?_
          exact ih v0 v1 v2 v3 (v4 + (1 : Int32)) z _ _ _ hf hw (lv_sub hl [2, 3, 4, 5, 0] rfl) kx
  refine lv_iconst (v := (0 : Int32)) hx hb dX3_weighSheets_0 (by decide) ?_
  refine lv_istore_n (lv' := [(3, .int (0 : Int32)), (0, .ref (g.2.1 a0)), (1, .ref (g.2.1 a1)), (2, .ref (g.2.1 a2))]) hx hb dX3_weighSheets_1 rfl hl (by decide) rfl (fun ls hl => ?_)
  refine lv_iconst (v := (0 : Int32)) hx hb dX3_weighSheets_2 (by decide) ?_
  refine lv_istore (lv' := [(4, .int (0 : Int32)), (3, .int (0 : Int32)), (0, .ref (g.2.1 a0)), (1, .ref (g.2.1 a1)), (2, .ref (g.2.1 a2))]) hx hb dX3_weighSheets_3 hl (by decide) rfl (fun ls hl => ?_)
  obtain ⟨z36, e37, hf⟩ := mBind hf
  refine L5 8192 a0 a1 a2 (0 : Int32) (0 : Int32) z36 _ _ _ e37 hw (lv_sub hl [2, 3, 4, 1, 0] rfl) (fun H locs ls hw hl => ?_)
  refine lv_iload_n hx hb dX3_weighSheets_94 rfl (lv_at hl 0 rfl) ?_
  rw [hQm, ← Option.some.inj hf]
  exact mri hx hb hr hlk hw dX3_weighSheets_95
def f_X3_weigh (K : mK) (a0 : Nat) (a1 : Nat) (a2 : Nat) (I0 : mI) (J0 : mJ) (R0 : mR) : Option Int32 :=
  if K a1 = (0, 1) then
  (f_X1_barFrom K a1 a2 I0 J0 R0).bind fun z2 =>
  if z2 = 0 then
  if K a0 = (0, 3) then
  (f_X3_weighTeeth K a0 a1 a2 I0 J0 R0).bind fun z6 =>
  (f_X3_weighMarks K a0 a1 a2 I0 J0 R0).bind fun z8 =>
  (f_X3_weighSheets K a0 a1 a2 I0 J0 R0).bind fun z10 =>
  some ((z6 + z8) + z10)
  else none
  else
  some (-100000 : Int32)
  else none
set_option maxHeartbeats 4000000 in
set_option maxRecDepth 100000 in
theorem r_X3_weigh (l : Launch) (g : mG) (K : mK) (n : Nat) (hJ : mInj g n) (hO : mOk K n) (a0 : Nat) (a1 : Nat) (a2 : Nat) (I0 : mI) (J0 : mJ) (R0 : mR) (out : Int32) (hf : f_X3_weigh K a0 a1 a2 I0 J0 R0 = some out) : Met l yX3_weigh (mWs yX3_weigh cX3_weigh 3 (some .int)) ({ frames := 3, cells := 0, slots := 0, locals := 66 }) (va_Pc [.ref (g.2.1 a0), .ref (g.2.1 a1), .ref (g.2.1 a2)] (mB g K n I0 J0 R0)) (mQ g K n (some (.int out)) I0 J0 R0) 0 0 (mA g n) := by
  unfold f_X3_weigh at hf
  refine mStart RX3 hJ hO (by decide) rfl (Nat.le_of_ble_eq_true rfl) ?_
  intro p e s m below meth c ls Qm hQm B hr hlk hw hl
  have hx := B.1.1
  have hb := B.1.2.1
  have hl : lv_has ls 3 [(0, .ref (g.2.1 a0)), (1, .ref (g.2.1 a1)), (2, .ref (g.2.1 a2))] := hl
  refine lv_aload_n hx hb dX3_weigh_0 rfl (lv_at hl 1 rfl) ?_
  refine lv_aload_n hx hb dX3_weigh_1 rfl (lv_at hl 2 rfl) ?_
  obtain ⟨h1, hf⟩ := mChk hf
  obtain ⟨z2, e3, hf⟩ := mBind hf
  refine mcallV (rest := []) (ci := 1) B hw [.ref (g.2.1 a2)] clX3_27 rfl h1 (r_X1_barFrom l g K n hJ hO a1 a2 I0 J0 R0 z2 e3) ⟨rfl, rfl, Nat.le_of_ble_eq_true rfl, Nat.le_of_ble_eq_true rfl⟩ rfl hl.1 (Nat.le_of_ble_eq_true rfl) ⟨Nat.zero_le _, Nat.zero_le _⟩ dX3_weigh_2 (fun H locs hw => ?_)
  refine W.eq (g2 := F0 m 5 ls [.int z2]) rfl ?_
  refine lv_if_eq (tgt := 11) hx hb dX3_weigh_5 (by decide) (fun c4 => ?_) (fun c4 => ?_)
  · replace hf := mT1 c4 hf
    refine lv_aload_n hx hb dX3_weigh_11 rfl (lv_at hl 0 rfl) ?_
    refine lv_aload_n hx hb dX3_weigh_12 rfl (lv_at hl 1 rfl) ?_
    refine lv_aload_n hx hb dX3_weigh_13 rfl (lv_at hl 2 rfl) ?_
    obtain ⟨h5, hf⟩ := mChk hf
    obtain ⟨z6, e7, hf⟩ := mBind hf
    refine mcallV (rest := []) (ci := 3) B hw [.ref (g.2.1 a1), .ref (g.2.1 a2)] clX3_34 rfl h5 (r_X3_weighTeeth l g K n hJ hO a0 a1 a2 I0 J0 R0 z6 e7) ⟨rfl, rfl, Nat.le_of_ble_eq_true rfl, Nat.le_of_ble_eq_true rfl⟩ rfl hl.1 (Nat.le_of_ble_eq_true rfl) ⟨Nat.zero_le _, Nat.zero_le _⟩ dX3_weigh_14 (fun H locs hw => ?_)
    refine W.eq (g2 := F0 m 17 ls [.int z6]) rfl ?_
    refine lv_aload_n hx hb dX3_weigh_17 rfl (lv_at hl 0 rfl) ?_
    refine lv_aload_n hx hb dX3_weigh_18 rfl (lv_at hl 1 rfl) ?_
    refine lv_aload_n hx hb dX3_weigh_19 rfl (lv_at hl 2 rfl) ?_
    obtain ⟨z8, e9, hf⟩ := mBind hf
    refine mcallV (rest := [.int z6]) (ci := 3) B hw [.ref (g.2.1 a1), .ref (g.2.1 a2)] clX3_38 rfl h5 (r_X3_weighMarks l g K n hJ hO a0 a1 a2 I0 J0 R0 z8 e9) ⟨rfl, rfl, Nat.le_of_ble_eq_true rfl, Nat.le_of_ble_eq_true rfl⟩ rfl hl.1 (Nat.le_of_ble_eq_true rfl) ⟨Nat.zero_le _, Nat.zero_le _⟩ dX3_weigh_20 (fun H locs hw => ?_)
    refine W.eq (g2 := F0 m 23 ls [.int z8, .int z6]) rfl ?_
    refine lv_iadd hx hb dX3_weigh_23 ?_
    refine lv_aload_n hx hb dX3_weigh_24 rfl (lv_at hl 0 rfl) ?_
    refine lv_aload_n hx hb dX3_weigh_25 rfl (lv_at hl 1 rfl) ?_
    refine lv_aload_n hx hb dX3_weigh_26 rfl (lv_at hl 2 rfl) ?_
    obtain ⟨z10, e11, hf⟩ := mBind hf
    refine mcallV (rest := [.int (z6 + z8)]) (ci := 3) B hw [.ref (g.2.1 a1), .ref (g.2.1 a2)] clX3_41 rfl h5 (r_X3_weighSheets l g K n hJ hO a0 a1 a2 I0 J0 R0 z10 e11) ⟨rfl, rfl, Nat.le_of_ble_eq_true rfl, Nat.le_of_ble_eq_true rfl⟩ rfl hl.1 (Nat.le_of_ble_eq_true rfl) ⟨Nat.zero_le _, Nat.zero_le _⟩ dX3_weigh_27 (fun H locs hw => ?_)
    refine W.eq (g2 := F0 m 30 ls [.int z10, .int (z6 + z8)]) rfl ?_
    refine lv_iadd hx hb dX3_weigh_30 ?_
    rw [hQm, ← Option.some.inj hf]
    exact mri hx hb hr hlk hw dX3_weigh_31
  · replace hf := mF1 c4 hf
    refine lv_ldc (v := (-100000 : Int32)) hx hb B.1.2.2.2.1 (B.1.2.2.2.2 (Cond.constant RX3 33 (-100000 : Int32)) (mT_at 426 rfl rfl)) dX3_weigh_8 ?_
    rw [hQm, ← Option.some.inj hf]
    exact mri hx hb hr hlk hw dX3_weigh_10
def f_X4_appraise_L21 (K : mK) (v0 : Nat) (v1 : Int64) (v3 : Int32) (I0 : mI) (R0 : mR) : Nat → Int32 → mJ → Option mJ
  | 0, _, _ => none
  | N + 1, v4, J =>
  if (12 : Int32) ≤ v4 then
  some J
  else
  if K v0 = (0, 4) then
  (R0 v0 0).bind fun x3 =>
  if mIx K x3 6 v3 then
  (R0 x3 (v3).toNatClampNeg).bind fun x6 =>
  if mIx K x6 1 v4 then
  (R0 v0 3).bind fun x9 =>
  if mIx K x9 7 (v3 + (1 : Int32)) then
  (R0 x9 ((v3 + (1 : Int32))).toNatClampNeg).bind fun x12 =>
  if (I0 x6 (v4).toNatClampNeg) ≤ 0 then
  if mIx K x12 4 (v4 + (1 : Int32)) then
  (some (mup J x12 ((v4 + (1 : Int32))).toNatClampNeg (0 : Int64))).bind fun J16 =>
  f_X4_appraise_L21 K v0 v1 v3 I0 R0 N (v4 + (1 : Int32)) J16
  else none
  else
  if mIx K x12 4 (v4 + (1 : Int32)) then
  (some (mup J x12 ((v4 + (1 : Int32))).toNatClampNeg ((((I0 x6 (v4).toNatClampNeg)).toInt64 * (23298085122481 : Int64)) + ((((12 : Int32) - v4)).toInt64 * v1)))).bind fun J19 =>
  f_X4_appraise_L21 K v0 v1 v3 I0 R0 N (v4 + (1 : Int32)) J19
  else none
  else none
  else none
  else none
  else none
def f_X4_appraise_L6 (K : mK) (v0 : Nat) (I0 : mI) (R0 : mR) : Nat → Int64 → Int32 → mJ → Option mJ
  | 0, _, _, _ => none
  | N + 1, v1, v3, J =>
  if (12 : Int32) ≤ v3 then
  some J
  else
  (f_X4_appraise_L21 K v0 (v1 / (13 : Int64)) v3 I0 R0 8192 (0 : Int32) J).bind fun z22 =>
  f_X4_appraise_L6 K v0 I0 R0 N (v1 / (13 : Int64)) (v3 + (1 : Int32)) z22
def f_X4_appraise (K : mK) (a0 : Nat) (I0 : mI) (J0 : mJ) (R0 : mR) : Option mJ :=
  (f_X4_appraise_L6 K a0 I0 R0 8192 (23298085122481 : Int64) (0 : Int32) J0).bind fun z24 =>
  some z24
set_option maxHeartbeats 4000000 in
set_option maxRecDepth 100000 in
theorem r_X4_appraise (l : Launch) (g : mG) (K : mK) (n : Nat) (hJ : mInj g n) (hO : mOk K n) (a0 : Nat) (I0 : mI) (J0 : mJ) (R0 : mR) (out : mJ) (hf : f_X4_appraise K a0 I0 J0 R0 = some out) : Met l yX4_appraise (mWs yX4_appraise cX4_appraise 6 none) ({ frames := 0, cells := 0, slots := 0, locals := 0 }) (va_Pc [.ref (g.2.1 a0)] (mB g K n I0 J0 R0)) (mQ g K n none I0 out R0) 0 0 (mA g n) := by
  unfold f_X4_appraise at hf
  refine mStart RX4 hJ hO (by decide) rfl (Nat.le_of_ble_eq_true rfl) ?_
  intro p e s m below meth c ls Qm hQm B hr hlk hw hl
  have hx := B.1.1
  have hb := B.1.2.1
  have hl : lv_has ls 6 [(0, .ref (g.2.1 a0))] := hl
  have L21 : ∀ (N : Nat) (v0 : Nat) (v1 : Int64) (v3 : Int32) (v4 : Int32) (J : mJ) (z : mJ) (H : Heap) (locs : List Loc) (ls : Array Slot), f_X4_appraise_L21 K v0 v1 v3 I0 R0 N v4 J = some z → mHp g K n s I0 J R0 H locs → lv_has ls 6 [(0, .ref (g.2.1 v0)), (1, .long v1), (3, .int v3), (4, .int v4)] → (∀ (H : Heap) (locs : List Loc) (ls : Array Slot), mHp g K n s I0 z R0 H locs → lv_has ls 6 [(0, .ref (g.2.1 v0)), (1, .long v1), (3, .int v3)] → W p l e ({ frames := 0, cells := 0, slots := 0, locals := 0 } : Room) s m ([.ref (g.2.1 a0)] : List Value).toArray below meth c H locs 0 0 Qm (F0 m 83 ls [])) → W p l e ({ frames := 0, cells := 0, slots := 0, locals := 0 } : Room) s m ([.ref (g.2.1 a0)] : List Value).toArray below meth c H locs 0 0 Qm (F0 m 21 ls []) := by
    intro N
    induction N with
    | zero =>
      intro v0 v1 v3 v4 J z H locs ls hf hw hl kx
      rw [f_X4_appraise_L21] at hf
      cases hf
    | succ N ih =>
      intro v0 v1 v3 v4 J z H locs ls hf hw hl kx
      rw [f_X4_appraise_L21] at hf
      refine lv_iload hx hb dX4_appraise_21 (lv_at hl 3 rfl) ?_
      refine lv_bipush (v := (12 : Int32)) hx hb dX4_appraise_23 (by decide) ?_
      refine lv_icmp_ge (tgt := 83) hx hb dX4_appraise_25 (by decide) (fun c1 => ?_) (fun c1 => ?_)
      · replace hf := mT1 c1 hf
        obtain rfl := Option.some.inj hf
        exact kx _ _ _ hw (lv_sub hl [0, 1, 2] rfl)
      · replace hf := mF1 c1 hf
        refine lv_aload_n hx hb dX4_appraise_28 rfl (lv_at hl 0 rfl) ?_
        obtain ⟨h2, hf⟩ := mChk hf
        obtain ⟨x3, e4, hf⟩ := mBind hf
        refine mgr B hw flX4_11 rfl h2 e4 dX4_appraise_29 ?_
        refine lv_iload_n hx hb dX4_appraise_32 rfl (lv_at hl 2 rfl) ?_
        obtain ⟨h5, hf⟩ := mChk hf
        obtain ⟨x6, e7, hf⟩ := mBind hf
        refine mld6 B hw h5 e7 dX4_appraise_33 ?_
        refine lv_iload hx hb dX4_appraise_34 (lv_at hl 3 rfl) ?_
        obtain ⟨h8, hf⟩ := mChk hf
        refine mld1 B hw h8 dX4_appraise_36 ?_
        refine lv_istore (lv' := [(5, .int (I0 x6 (v4).toNatClampNeg)), (0, .ref (g.2.1 v0)), (1, .long v1), (3, .int v3), (4, .int v4)]) hx hb dX4_appraise_37 hl (by decide) rfl (fun ls hl => ?_)
        refine lv_aload_n hx hb dX4_appraise_39 rfl (lv_at hl 1 rfl) ?_
        obtain ⟨x9, e10, hf⟩ := mBind hf
        refine mgr B hw flX4_22 rfl h2 e10 dX4_appraise_40 ?_
        refine lv_iload_n hx hb dX4_appraise_43 rfl (lv_at hl 3 rfl) ?_
        refine lv_iconst (v := (1 : Int32)) hx hb dX4_appraise_44 (by decide) ?_
        refine lv_iadd hx hb dX4_appraise_45 ?_
        obtain ⟨h11, hf⟩ := mChk hf
        obtain ⟨x12, e13, hf⟩ := mBind hf
        refine mld7 B hw h11 e13 dX4_appraise_46 ?_
        refine lv_iload hx hb dX4_appraise_47 (lv_at hl 4 rfl) ?_
        refine lv_iconst (v := (1 : Int32)) hx hb dX4_appraise_49 (by decide) ?_
        refine lv_iadd hx hb dX4_appraise_50 ?_
        refine lv_iload hx hb dX4_appraise_51 (lv_at hl 0 rfl) ?_
        refine lv_if_le (tgt := 75) hx hb dX4_appraise_53 (by decide) (fun c14 => ?_) (fun c14 => ?_)
        · replace hf := mT1 c14 hf
          refine lv_lconst (v := (0 : Int64)) hx hb dX4_appraise_75 (by decide) ?_
          obtain ⟨h15, hf⟩ := mChk hf
          obtain ⟨J16, e17, hf⟩ := mLet hf
          refine mst4 B hw h15 dX4_appraise_76 (fun H locs hw => ?_)
          rw [← e17] at hw
          refine lv_iinc (v := (v4 + (1 : Int32))) (lv' := [(4, .int (v4 + (1 : Int32))), (5, .int (I0 x6 (v4).toNatClampNeg)), (0, .ref (g.2.1 v0)), (1, .long v1), (3, .int v3)]) hx hb dX4_appraise_77 hl (k := 4) rfl rfl (by decide) rfl (fun ls hl => ?_)
          refine lv_goto (tgt := 21) hx hb dX4_appraise_80 (by decide) ?_
          exact ih v0 v1 v3 (v4 + (1 : Int32)) J16 z _ _ _ hf hw (lv_sub hl [2, 3, 4, 0] rfl) kx
        · replace hf := mF1 c14 hf
          refine lv_iload hx hb dX4_appraise_56 (lv_at hl 0 rfl) ?_
          refine lv_i2l hx hb dX4_appraise_58 rfl ?_
          refine lv_ldc2 (v := (23298085122481 : Int64)) hx hb B.1.2.2.2.1 (B.1.2.2.2.2 (Cond.constantLong RX4 62 (23298085122481 : Int64)) (mT_at 465 rfl rfl)) dX4_appraise_59 ?_
          refine lv_lmul hx hb dX4_appraise_62 ?_
          refine lv_bipush (v := (12 : Int32)) hx hb dX4_appraise_63 (by decide) ?_
          refine lv_iload hx hb dX4_appraise_65 (lv_at hl 4 rfl) ?_
          refine lv_isub hx hb dX4_appraise_67 ?_
          refine lv_i2l hx hb dX4_appraise_68 rfl ?_
          refine lv_lload_n hx hb dX4_appraise_69 rfl (lv_at hl 2 rfl) ?_
          refine lv_lmul hx hb dX4_appraise_70 ?_
          refine lv_ladd hx hb dX4_appraise_71 ?_
          refine lv_goto (tgt := 76) hx hb dX4_appraise_72 (by decide) ?_
          obtain ⟨h18, hf⟩ := mChk hf
          obtain ⟨J19, e20, hf⟩ := mLet hf
          refine mst4 B hw h18 dX4_appraise_76 (fun H locs hw => ?_)
          rw [← e20] at hw
          refine lv_iinc (v := (v4 + (1 : Int32))) (lv' := [(4, .int (v4 + (1 : Int32))), (5, .int (I0 x6 (v4).toNatClampNeg)), (0, .ref (g.2.1 v0)), (1, .long v1), (3, .int v3)]) hx hb dX4_appraise_77 hl (k := 4) rfl rfl (by decide) rfl (fun ls hl => ?_)
          refine lv_goto (tgt := 21) hx hb dX4_appraise_80 (by decide) ?_
          exact ih v0 v1 v3 (v4 + (1 : Int32)) J19 z _ _ _ hf hw (lv_sub hl [2, 3, 4, 0] rfl) kx
  have L6 : ∀ (N : Nat) (v0 : Nat) (v1 : Int64) (v3 : Int32) (J : mJ) (z : mJ) (H : Heap) (locs : List Loc) (ls : Array Slot), f_X4_appraise_L6 K v0 I0 R0 N v1 v3 J = some z → mHp g K n s I0 J R0 H locs → lv_has ls 6 [(0, .ref (g.2.1 v0)), (1, .long v1), (3, .int v3)] → (∀ (H : Heap) (locs : List Loc) (ls : Array Slot), mHp g K n s I0 z R0 H locs → lv_has ls 6 [] → W p l e ({ frames := 0, cells := 0, slots := 0, locals := 0 } : Room) s m ([.ref (g.2.1 a0)] : List Value).toArray below meth c H locs 0 0 Qm (F0 m 89 ls [])) → W p l e ({ frames := 0, cells := 0, slots := 0, locals := 0 } : Room) s m ([.ref (g.2.1 a0)] : List Value).toArray below meth c H locs 0 0 Qm (F0 m 6 ls []) := by
    intro N
    induction N with
    | zero =>
      intro v0 v1 v3 J z H locs ls hf hw hl kx
      rw [f_X4_appraise_L6] at hf
      cases hf
    | succ N ih =>
      intro v0 v1 v3 J z H locs ls hf hw hl kx
      rw [f_X4_appraise_L6] at hf
      refine lv_iload_n hx hb dX4_appraise_6 rfl (lv_at hl 2 rfl) ?_
      refine lv_bipush (v := (12 : Int32)) hx hb dX4_appraise_7 (by decide) ?_
      refine lv_icmp_ge (tgt := 89) hx hb dX4_appraise_9 (by decide) (fun c21 => ?_) (fun c21 => ?_)
      · replace hf := mT1 c21 hf
        obtain rfl := Option.some.inj hf
        exact kx _ _ _ hw (lv_sub hl [] rfl)
      · replace hf := mF1 c21 hf
        refine lv_lload_n hx hb dX4_appraise_12 rfl (lv_at hl 1 rfl) ?_
        refine lv_ldc2 (v := (13 : Int64)) hx hb B.1.2.2.2.1 (B.1.2.2.2.2 (Cond.constantLong RX4 64 (13 : Int64)) (mT_at 466 rfl rfl)) dX4_appraise_13 ?_
        refine lv_ldiv hx hb dX4_appraise_16 (by decide) ?_
        refine lv_lstore_n (lv' := [(1, .long (v1 / (13 : Int64))), (0, .ref (g.2.1 v0)), (3, .int v3)]) hx hb dX4_appraise_17 rfl hl (by decide) rfl (fun ls hl => ?_)
        refine lv_iconst (v := (0 : Int32)) hx hb dX4_appraise_18 (by decide) ?_
        refine lv_istore (lv' := [(4, .int (0 : Int32)), (1, .long (v1 / (13 : Int64))), (0, .ref (g.2.1 v0)), (3, .int v3)]) hx hb dX4_appraise_19 hl (by decide) rfl (fun ls hl => ?_)
        obtain ⟨z22, e23, hf⟩ := mBind hf
        refine L21 8192 v0 (v1 / (13 : Int64)) v3 (0 : Int32) J z22 _ _ _ e23 hw (lv_sub hl [2, 1, 3, 0] rfl) (fun H locs ls hw hl => ?_)
        refine lv_iinc (v := (v3 + (1 : Int32))) (lv' := [(3, .int (v3 + (1 : Int32))), (0, .ref (g.2.1 v0)), (1, .long (v1 / (13 : Int64)))]) hx hb dX4_appraise_83 hl (k := 2) rfl rfl (by decide) rfl (fun ls hl => ?_)
        refine lv_goto (tgt := 6) hx hb dX4_appraise_86 (by decide) ?_
        exact ih v0 (v1 / (13 : Int64)) (v3 + (1 : Int32)) z22 z _ _ _ hf hw (lv_sub hl [1, 2, 0] rfl) kx
  refine lv_ldc2 (v := (23298085122481 : Int64)) hx hb B.1.2.2.2.1 (B.1.2.2.2.2 (Cond.constantLong RX4 62 (23298085122481 : Int64)) (mT_at 465 rfl rfl)) dX4_appraise_0 ?_
  refine lv_lstore_n (lv' := [(1, .long (23298085122481 : Int64)), (0, .ref (g.2.1 a0))]) hx hb dX4_appraise_3 rfl hl (by decide) rfl (fun ls hl => ?_)
  refine lv_iconst (v := (0 : Int32)) hx hb dX4_appraise_4 (by decide) ?_
  refine lv_istore_n (lv' := [(3, .int (0 : Int32)), (1, .long (23298085122481 : Int64)), (0, .ref (g.2.1 a0))]) hx hb dX4_appraise_5 rfl hl (by decide) rfl (fun ls hl => ?_)
  obtain ⟨z24, e25, hf⟩ := mBind hf
  refine L6 8192 a0 (23298085122481 : Int64) (0 : Int32) J0 z24 _ _ _ e25 hw (lv_sub hl [2, 1, 0] rfl) (fun H locs ls hw hl => ?_)
  rw [hQm, ← Option.some.inj hf]
  exact mrv hx hb hr hlk hw dX4_appraise_89
def f_X4_measure_L9 (K : mK) (v0 : Nat) (v1 : Int32) (v2 : Int32) (R0 : mR) : Nat → Int32 → mI → mJ → Option (mI × mJ)
  | 0, _, _, _ => none
  | N + 1, v3, I, J =>
  if (13 : Int32) ≤ v3 then
  some (I, J)
  else
  if K v0 = (0, 4) then
  (R0 v0 3).bind fun x3 =>
  if mIx K x3 7 v2 then
  (R0 x3 (v2).toNatClampNeg).bind fun x6 =>
  if mIx K x6 4 v3 then
  (R0 v0 5).bind fun x9 =>
  if mIx K x9 4 v2 then
  (R0 v0 6).bind fun x12 =>
  if mIx K x12 4 v3 then
  (some (((-(J x6 (v3).toNatClampNeg)) - (J x9 (v2).toNatClampNeg)) - (J x12 (v3).toNatClampNeg))).bind fun y15 =>
  (R0 v0 9).bind fun x17 =>
  if mIx K x17 3 v3 then
  if (I x17 (v3).toNatClampNeg) = 0 then
  (R0 v0 7).bind fun x21 =>
  if mIx K x21 4 v3 then
  if 0 ≤ (lg_cmp y15 (J x21 (v3).toNatClampNeg)) then
  f_X4_measure_L9 K v0 v1 v2 R0 N (v3 + (1 : Int32)) I J
  else
  (some (mup J x21 (v3).toNatClampNeg y15)).bind fun J25 =>
  (R0 v0 8).bind fun x27 =>
  if mIx K x27 1 v3 then
  (some (mup I x27 (v3).toNatClampNeg v1)).bind fun I30 =>
  f_X4_measure_L9 K v0 v1 v2 R0 N (v3 + (1 : Int32)) I30 J25
  else none
  else none
  else
  f_X4_measure_L9 K v0 v1 v2 R0 N (v3 + (1 : Int32)) I J
  else none
  else none
  else none
  else none
  else none
  else none
def f_X4_measure (K : mK) (a0 : Nat) (a1 : Int32) (I0 : mI) (J0 : mJ) (R0 : mR) : Option (mI × mJ) :=
  if K a0 = (0, 4) then
  (R0 a0 4).bind fun x33 =>
  if mIx K x33 1 a1 then
  (f_X4_measure_L9 K a0 a1 (I0 x33 (a1).toNatClampNeg) R0 8192 (1 : Int32) I0 J0).bind fun z36 =>
  some (z36.1, z36.2)
  else none
  else none
set_option maxHeartbeats 4000000 in
set_option maxRecDepth 100000 in
theorem r_X4_measure (l : Launch) (g : mG) (K : mK) (n : Nat) (hJ : mInj g n) (hO : mOk K n) (a0 : Nat) (a1 : Int32) (I0 : mI) (J0 : mJ) (R0 : mR) (out : (mI × mJ)) (hf : f_X4_measure K a0 a1 I0 J0 R0 = some out) : Met l yX4_measure (mWs yX4_measure cX4_measure 6 none) ({ frames := 0, cells := 0, slots := 0, locals := 0 }) (va_Pc [.ref (g.2.1 a0), .int a1] (mB g K n I0 J0 R0)) (mQ g K n none out.1 out.2 R0) 0 0 (mA g n) := by
  unfold f_X4_measure at hf
  refine mStart RX4 hJ hO (by decide) rfl (Nat.le_of_ble_eq_true rfl) ?_
  intro p e s m below meth c ls Qm hQm B hr hlk hw hl
  have hx := B.1.1
  have hb := B.1.2.1
  have hl : lv_has ls 6 [(0, .ref (g.2.1 a0)), (1, .int a1)] := hl
  have L9 : ∀ (N : Nat) (v0 : Nat) (v1 : Int32) (v2 : Int32) (v3 : Int32) (I : mI) (J : mJ) (z : (mI × mJ)) (H : Heap) (locs : List Loc) (ls : Array Slot), f_X4_measure_L9 K v0 v1 v2 R0 N v3 I J = some z → mHp g K n s I J R0 H locs → lv_has ls 6 [(0, .ref (g.2.1 v0)), (1, .int v1), (2, .int v2), (3, .int v3)] → (∀ (H : Heap) (locs : List Loc) (ls : Array Slot), mHp g K n s z.1 z.2 R0 H locs → lv_has ls 6 [] → W p l e ({ frames := 0, cells := 0, slots := 0, locals := 0 } : Room) s m ([.ref (g.2.1 a0), .int a1] : List Value).toArray below meth c H locs 0 0 Qm (F0 m 82 ls [])) → W p l e ({ frames := 0, cells := 0, slots := 0, locals := 0 } : Room) s m ([.ref (g.2.1 a0), .int a1] : List Value).toArray below meth c H locs 0 0 Qm (F0 m 9 ls []) := by
    intro N
    induction N with
    | zero =>
      intro v0 v1 v2 v3 I J z H locs ls hf hw hl kx
      rw [f_X4_measure_L9] at hf
      cases hf
    | succ N ih =>
      intro v0 v1 v2 v3 I J z H locs ls hf hw hl kx
      rw [f_X4_measure_L9] at hf
      refine lv_iload_n hx hb dX4_measure_9 rfl (lv_at hl 3 rfl) ?_
      refine lv_bipush (v := (13 : Int32)) hx hb dX4_measure_10 (by decide) ?_
      refine lv_icmp_ge (tgt := 82) hx hb dX4_measure_12 (by decide) (fun c1 => ?_) (fun c1 => ?_)
      · replace hf := mT1 c1 hf
        obtain rfl := Option.some.inj hf
        exact kx _ _ _ hw (lv_sub hl [] rfl)
      · replace hf := mF1 c1 hf
        refine lv_aload_n hx hb dX4_measure_15 rfl (lv_at hl 0 rfl) ?_
        obtain ⟨h2, hf⟩ := mChk hf
        obtain ⟨x3, e4, hf⟩ := mBind hf
        refine mgr B hw flX4_22 rfl h2 e4 dX4_measure_16 ?_
        refine lv_iload_n hx hb dX4_measure_19 rfl (lv_at hl 2 rfl) ?_
        obtain ⟨h5, hf⟩ := mChk hf
        obtain ⟨x6, e7, hf⟩ := mBind hf
        refine mld7 B hw h5 e7 dX4_measure_20 ?_
        refine lv_iload_n hx hb dX4_measure_21 rfl (lv_at hl 3 rfl) ?_
        obtain ⟨h8, hf⟩ := mChk hf
        refine mld4 B hw h8 dX4_measure_22 ?_
        refine lv_lneg hx hb dX4_measure_23 ?_
        refine lv_aload_n hx hb dX4_measure_24 rfl (lv_at hl 0 rfl) ?_
        obtain ⟨x9, e10, hf⟩ := mBind hf
        refine mgr B hw flX4_28 rfl h2 e10 dX4_measure_25 ?_
        refine lv_iload_n hx hb dX4_measure_28 rfl (lv_at hl 2 rfl) ?_
        obtain ⟨h11, hf⟩ := mChk hf
        refine mld4 B hw h11 dX4_measure_29 ?_
        refine lv_lsub hx hb dX4_measure_30 ?_
        refine lv_aload_n hx hb dX4_measure_31 rfl (lv_at hl 0 rfl) ?_
        obtain ⟨x12, e13, hf⟩ := mBind hf
        refine mgr B hw flX4_32 rfl h2 e13 dX4_measure_32 ?_
        refine lv_iload_n hx hb dX4_measure_35 rfl (lv_at hl 3 rfl) ?_
        obtain ⟨h14, hf⟩ := mChk hf
        refine mld4 B hw h14 dX4_measure_36 ?_
        refine lv_lsub hx hb dX4_measure_37 ?_
        obtain ⟨y15, e16, hf⟩ := mLet hf
        rw [← e16]
        refine lv_lstore (lv' := [(4, .long y15), (0, .ref (g.2.1 v0)), (1, .int v1), (2, .int v2), (3, .int v3)]) hx hb dX4_measure_38 hl (by decide) rfl (fun ls hl => ?_)
        refine lv_aload_n hx hb dX4_measure_40 rfl (lv_at hl 1 rfl) ?_
        obtain ⟨x17, e18, hf⟩ := mBind hf
        refine mgr B hw flX4_41 rfl h2 e18 dX4_measure_41 ?_
        refine lv_iload_n hx hb dX4_measure_44 rfl (lv_at hl 4 rfl) ?_
        obtain ⟨h19, hf⟩ := mChk hf
        refine mld3 B hw h19 dX4_measure_45 ?_
        refine lv_if_ne (tgt := 76) hx hb dX4_measure_46 (by decide) (fun c20 => ?_) (fun c20 => ?_)
        · replace hf := mF1 c20 hf
          refine lv_iinc (v := (v3 + (1 : Int32))) (lv' := [(3, .int (v3 + (1 : Int32))), (4, .long y15), (0, .ref (g.2.1 v0)), (1, .int v1), (2, .int v2)]) hx hb dX4_measure_76 hl (k := 4) rfl rfl (by decide) rfl (fun ls hl => ?_)
          refine lv_goto (tgt := 9) hx hb dX4_measure_79 (by decide) ?_
          exact ih v0 v1 v2 (v3 + (1 : Int32)) I J z _ _ _ hf hw (lv_sub hl [2, 3, 4, 0] rfl) kx
        · replace hf := mT1 c20 hf
          refine lv_lload hx hb dX4_measure_49 (lv_at hl 0 rfl) ?_
          refine lv_aload_n hx hb dX4_measure_51 rfl (lv_at hl 1 rfl) ?_
          obtain ⟨x21, e22, hf⟩ := mBind hf
          refine mgr B hw flX4_35 rfl h2 e22 dX4_measure_52 ?_
          refine lv_iload_n hx hb dX4_measure_55 rfl (lv_at hl 4 rfl) ?_
          obtain ⟨h23, hf⟩ := mChk hf
          refine mld4 B hw h23 dX4_measure_56 ?_
          refine W.lcmp hx hb dX4_measure_57 ?_
          refine lv_if_ge (tgt := 76) hx hb dX4_measure_58 (by decide) (fun c24 => ?_) (fun c24 => ?_)
          · replace hf := mT1 c24 hf
            refine lv_iinc (v := (v3 + (1 : Int32))) (lv' := [(3, .int (v3 + (1 : Int32))), (4, .long y15), (0, .ref (g.2.1 v0)), (1, .int v1), (2, .int v2)]) hx hb dX4_measure_76 hl (k := 4) rfl rfl (by decide) rfl (fun ls hl => ?_)
            refine lv_goto (tgt := 9) hx hb dX4_measure_79 (by decide) ?_
            exact ih v0 v1 v2 (v3 + (1 : Int32)) I J z _ _ _ hf hw (lv_sub hl [2, 3, 4, 0] rfl) kx
          · replace hf := mF1 c24 hf
            refine lv_aload_n hx hb dX4_measure_61 rfl (lv_at hl 1 rfl) ?_
            refine mgr B hw flX4_35 rfl h2 e22 dX4_measure_62 ?_
            refine lv_iload_n hx hb dX4_measure_65 rfl (lv_at hl 4 rfl) ?_
            refine lv_lload hx hb dX4_measure_66 (lv_at hl 0 rfl) ?_
            obtain ⟨J25, e26, hf⟩ := mLet hf
            refine mst4 B hw h23 dX4_measure_68 (fun H locs hw => ?_)
            rw [← e26] at hw
            refine lv_aload_n hx hb dX4_measure_69 rfl (lv_at hl 1 rfl) ?_
            obtain ⟨x27, e28, hf⟩ := mBind hf
            refine mgr B hw flX4_38 rfl h2 e28 dX4_measure_70 ?_
            refine lv_iload_n hx hb dX4_measure_73 rfl (lv_at hl 4 rfl) ?_
            refine lv_iload_n hx hb dX4_measure_74 rfl (lv_at hl 2 rfl) ?_
            obtain ⟨h29, hf⟩ := mChk hf
            obtain ⟨I30, e31, hf⟩ := mLet hf
            refine mst1 B hw h29 dX4_measure_75 (fun H locs hw => ?_)
            rw [← e31] at hw
            refine lv_iinc (v := (v3 + (1 : Int32))) (lv' := [(3, .int (v3 + (1 : Int32))), (4, .long y15), (0, .ref (g.2.1 v0)), (1, .int v1), (2, .int v2)]) hx hb dX4_measure_76 hl (k := 4) rfl rfl (by decide) rfl (fun ls hl => ?_)
            refine lv_goto (tgt := 9) hx hb dX4_measure_79 (by decide) ?_
            exact ih v0 v1 v2 (v3 + (1 : Int32)) I30 J25 z _ _ _ hf hw (lv_sub hl [2, 3, 4, 0] rfl) kx
  refine lv_aload_n hx hb dX4_measure_0 rfl (lv_at hl 0 rfl) ?_
  obtain ⟨h32, hf⟩ := mChk hf
  obtain ⟨x33, e34, hf⟩ := mBind hf
  refine mgr B hw flX4_25 rfl h32 e34 dX4_measure_1 ?_
  refine lv_iload_n hx hb dX4_measure_4 rfl (lv_at hl 1 rfl) ?_
  obtain ⟨h35, hf⟩ := mChk hf
  refine mld1 B hw h35 dX4_measure_5 ?_
  refine lv_istore_n (lv' := [(2, .int (I0 x33 (a1).toNatClampNeg)), (0, .ref (g.2.1 a0)), (1, .int a1)]) hx hb dX4_measure_6 rfl hl (by decide) rfl (fun ls hl => ?_)
  refine lv_iconst (v := (1 : Int32)) hx hb dX4_measure_7 (by decide) ?_
  refine lv_istore_n (lv' := [(3, .int (1 : Int32)), (2, .int (I0 x33 (a1).toNatClampNeg)), (0, .ref (g.2.1 a0)), (1, .int a1)]) hx hb dX4_measure_8 rfl hl (by decide) rfl (fun ls hl => ?_)
  obtain ⟨z36, e37, hf⟩ := mBind hf
  refine L9 8192 a0 a1 (I0 x33 (a1).toNatClampNeg) (1 : Int32) I0 J0 z36 _ _ _ e37 hw (lv_sub hl [2, 3, 1, 0] rfl) (fun H locs ls hw hl => ?_)
  rw [hQm, ← Option.some.inj hf]
  exact mrv hx hb hr hlk hw dX4_measure_82
def f_X4_nearest_L4 (K : mK) (v0 : Nat) (I0 : mI) (J0 : mJ) (R0 : mR) : Nat → Int32 → Int32 → Option Int32
  | 0, _, _ => none
  | N + 1, v1, v2 =>
  if (13 : Int32) ≤ v2 then
  some v1
  else
  if K v0 = (0, 4) then
  (R0 v0 9).bind fun x3 =>
  if mIx K x3 3 v2 then
  if (I0 x3 (v2).toNatClampNeg) = 0 then
  if v1 = 0 then
  f_X4_nearest_L4 K v0 I0 J0 R0 N v2 (v2 + (1 : Int32))
  else
  (R0 v0 7).bind fun x8 =>
  if mIx K x8 4 v2 then
  if mIx K x8 4 v1 then
  if 0 ≤ (lg_cmp (J0 x8 (v2).toNatClampNeg) (J0 x8 (v1).toNatClampNeg)) then
  f_X4_nearest_L4 K v0 I0 J0 R0 N v1 (v2 + (1 : Int32))
  else
  f_X4_nearest_L4 K v0 I0 J0 R0 N v2 (v2 + (1 : Int32))
  else none
  else none
  else
  f_X4_nearest_L4 K v0 I0 J0 R0 N v1 (v2 + (1 : Int32))
  else none
  else none
def f_X4_nearest (K : mK) (a0 : Nat) (I0 : mI) (J0 : mJ) (R0 : mR) : Option Int32 :=
  (f_X4_nearest_L4 K a0 I0 J0 R0 8192 (0 : Int32) (1 : Int32)).bind fun z13 =>
  some z13
set_option maxHeartbeats 4000000 in
set_option maxRecDepth 100000 in
theorem r_X4_nearest (l : Launch) (g : mG) (K : mK) (n : Nat) (hJ : mInj g n) (hO : mOk K n) (a0 : Nat) (I0 : mI) (J0 : mJ) (R0 : mR) (out : Int32) (hf : f_X4_nearest K a0 I0 J0 R0 = some out) : Met l yX4_nearest (mWs yX4_nearest cX4_nearest 3 (some .int)) ({ frames := 0, cells := 0, slots := 0, locals := 0 }) (va_Pc [.ref (g.2.1 a0)] (mB g K n I0 J0 R0)) (mQ g K n (some (.int out)) I0 J0 R0) 0 0 (mA g n) := by
  unfold f_X4_nearest at hf
  refine mStart RX4 hJ hO (by decide) rfl (Nat.le_of_ble_eq_true rfl) ?_
  intro p e s m below meth c ls Qm hQm B hr hlk hw hl
  have hx := B.1.1
  have hb := B.1.2.1
  have hl : lv_has ls 3 [(0, .ref (g.2.1 a0))] := hl
  have L4 : ∀ (N : Nat) (v0 : Nat) (v1 : Int32) (v2 : Int32) (z : Int32) (H : Heap) (locs : List Loc) (ls : Array Slot), f_X4_nearest_L4 K v0 I0 J0 R0 N v1 v2 = some z → mHp g K n s I0 J0 R0 H locs → lv_has ls 3 [(0, .ref (g.2.1 v0)), (1, .int v1), (2, .int v2)] → (∀ (H : Heap) (locs : List Loc) (ls : Array Slot), mHp g K n s I0 J0 R0 H locs → lv_has ls 3 [(1, .int z)] → W p l e ({ frames := 0, cells := 0, slots := 0, locals := 0 } : Room) s m ([.ref (g.2.1 a0)] : List Value).toArray below meth c H locs 0 0 Qm (F0 m 47 ls [])) → W p l e ({ frames := 0, cells := 0, slots := 0, locals := 0 } : Room) s m ([.ref (g.2.1 a0)] : List Value).toArray below meth c H locs 0 0 Qm (F0 m 4 ls []) := by
    intro N
    induction N with
    | zero =>
      intro v0 v1 v2  z H locs ls hf hw hl kx
      rw [f_X4_nearest_L4] at hf
      cases hf
    | succ N ih =>
      intro v0 v1 v2  z H locs ls hf hw hl kx
      rw [f_X4_nearest_L4] at hf
      refine lv_iload_n hx hb dX4_nearest_4 rfl (lv_at hl 2 rfl) ?_
      refine lv_bipush (v := (13 : Int32)) hx hb dX4_nearest_5 (by decide) ?_
      refine lv_icmp_ge (tgt := 47) hx hb dX4_nearest_7 (by decide) (fun c1 => ?_) (fun c1 => ?_)
      · replace hf := mT1 c1 hf
        obtain rfl := Option.some.inj hf
        exact kx _ _ _ hw (lv_sub hl [1] rfl)
      · replace hf := mF1 c1 hf
        refine lv_aload_n hx hb dX4_nearest_10 rfl (lv_at hl 0 rfl) ?_
        obtain ⟨h2, hf⟩ := mChk hf
        obtain ⟨x3, e4, hf⟩ := mBind hf
        refine mgr B hw flX4_41 rfl h2 e4 dX4_nearest_11 ?_
        refine lv_iload_n hx hb dX4_nearest_14 rfl (lv_at hl 2 rfl) ?_
        obtain ⟨h5, hf⟩ := mChk hf
        refine mld3 B hw h5 dX4_nearest_15 ?_
        refine lv_if_ne (tgt := 41) hx hb dX4_nearest_16 (by decide) (fun c6 => ?_) (fun c6 => ?_)
        · replace hf := mF1 c6 hf
          refine lv_iinc (v := (v2 + (1 : Int32))) (lv' := [(2, .int (v2 + (1 : Int32))), (0, .ref (g.2.1 v0)), (1, .int v1)]) hx hb dX4_nearest_41 hl (k := 2) rfl rfl (by decide) rfl (fun ls hl => ?_)
          refine lv_goto (tgt := 4) hx hb dX4_nearest_44 (by decide) ?_
          exact ih v0 v1 (v2 + (1 : Int32)) z _ _ _ hf hw (lv_sub hl [1, 2, 0] rfl) kx
        · replace hf := mT1 c6 hf
          refine lv_iload_n hx hb dX4_nearest_19 rfl (lv_at hl 1 rfl) ?_
          refine lv_if_eq (tgt := 39) hx hb dX4_nearest_20 (by decide) (fun c7 => ?_) (fun c7 => ?_)
          · replace hf := mT1 c7 hf
            refine lv_iload_n hx hb dX4_nearest_39 rfl (lv_at hl 2 rfl) ?_
            refine lv_istore_n (lv' := [(1, .int v2), (0, .ref (g.2.1 v0)), (2, .int v2)]) hx hb dX4_nearest_40 rfl hl (by decide) rfl (fun ls hl => ?_)
            refine lv_iinc (v := (v2 + (1 : Int32))) (lv' := [(2, .int (v2 + (1 : Int32))), (1, .int v2), (0, .ref (g.2.1 v0))]) hx hb dX4_nearest_41 hl (k := 2) rfl rfl (by decide) rfl (fun ls hl => ?_)
            refine lv_goto (tgt := 4) hx hb dX4_nearest_44 (by decide) ?_
            exact ih v0 v2 (v2 + (1 : Int32)) z _ _ _ hf hw (lv_sub hl [2, 1, 0] rfl) kx
          · replace hf := mF1 c7 hf
            refine lv_aload_n hx hb dX4_nearest_23 rfl (lv_at hl 0 rfl) ?_
            obtain ⟨x8, e9, hf⟩ := mBind hf
            refine mgr B hw flX4_35 rfl h2 e9 dX4_nearest_24 ?_
            refine lv_iload_n hx hb dX4_nearest_27 rfl (lv_at hl 2 rfl) ?_
            obtain ⟨h10, hf⟩ := mChk hf
            refine mld4 B hw h10 dX4_nearest_28 ?_
            refine lv_aload_n hx hb dX4_nearest_29 rfl (lv_at hl 0 rfl) ?_
            refine mgr B hw flX4_35 rfl h2 e9 dX4_nearest_30 ?_
            refine lv_iload_n hx hb dX4_nearest_33 rfl (lv_at hl 1 rfl) ?_
            obtain ⟨h11, hf⟩ := mChk hf
            refine mld4 B hw h11 dX4_nearest_34 ?_
            refine W.lcmp hx hb dX4_nearest_35 ?_
            refine lv_if_ge (tgt := 41) hx hb dX4_nearest_36 (by decide) (fun c12 => ?_) (fun c12 => ?_)
            · replace hf := mT1 c12 hf
              refine lv_iinc (v := (v2 + (1 : Int32))) (lv' := [(2, .int (v2 + (1 : Int32))), (0, .ref (g.2.1 v0)), (1, .int v1)]) hx hb dX4_nearest_41 hl (k := 2) rfl rfl (by decide) rfl (fun ls hl => ?_)
              refine lv_goto (tgt := 4) hx hb dX4_nearest_44 (by decide) ?_
              exact ih v0 v1 (v2 + (1 : Int32)) z _ _ _ hf hw (lv_sub hl [1, 2, 0] rfl) kx
            · replace hf := mF1 c12 hf
              refine lv_iload_n hx hb dX4_nearest_39 rfl (lv_at hl 2 rfl) ?_
              refine lv_istore_n (lv' := [(1, .int v2), (0, .ref (g.2.1 v0)), (2, .int v2)]) hx hb dX4_nearest_40 rfl hl (by decide) rfl (fun ls hl => ?_)
              refine lv_iinc (v := (v2 + (1 : Int32))) (lv' := [(2, .int (v2 + (1 : Int32))), (1, .int v2), (0, .ref (g.2.1 v0))]) hx hb dX4_nearest_41 hl (k := 2) rfl rfl (by decide) rfl (fun ls hl => ?_)
              refine lv_goto (tgt := 4) hx hb dX4_nearest_44 (by decide) ?_
              exact ih v0 v2 (v2 + (1 : Int32)) z _ _ _ hf hw (lv_sub hl [2, 1, 0] rfl) kx
  refine lv_iconst (v := (0 : Int32)) hx hb dX4_nearest_0 (by decide) ?_
  refine lv_istore_n (lv' := [(1, .int (0 : Int32)), (0, .ref (g.2.1 a0))]) hx hb dX4_nearest_1 rfl hl (by decide) rfl (fun ls hl => ?_)
  refine lv_iconst (v := (1 : Int32)) hx hb dX4_nearest_2 (by decide) ?_
  refine lv_istore_n (lv' := [(2, .int (1 : Int32)), (1, .int (0 : Int32)), (0, .ref (g.2.1 a0))]) hx hb dX4_nearest_3 rfl hl (by decide) rfl (fun ls hl => ?_)
  obtain ⟨z13, e14, hf⟩ := mBind hf
  refine L4 8192 a0 (0 : Int32) (1 : Int32) z13 _ _ _ e14 hw (lv_sub hl [2, 1, 0] rfl) (fun H locs ls hw hl => ?_)
  refine lv_iload_n hx hb dX4_nearest_47 rfl (lv_at hl 0 rfl) ?_
  rw [hQm, ← Option.some.inj hf]
  exact mri hx hb hr hlk hw dX4_nearest_48
def f_X4_shiftPrices_L2 (K : mK) (v0 : Nat) (v1 : Int64) (I0 : mI) (R0 : mR) : Nat → Int32 → mJ → Option mJ
  | 0, _, _ => none
  | N + 1, v3, J =>
  if (13 : Int32) ≤ v3 then
  some J
  else
  if K v0 = (0, 4) then
  (R0 v0 9).bind fun x3 =>
  if mIx K x3 3 v3 then
  if (I0 x3 (v3).toNatClampNeg) = 0 then
  (R0 v0 7).bind fun x7 =>
  if mIx K x7 4 v3 then
  (some (mup J x7 (v3).toNatClampNeg ((J x7 (v3).toNatClampNeg) - v1))).bind fun J10 =>
  f_X4_shiftPrices_L2 K v0 v1 I0 R0 N (v3 + (1 : Int32)) J10
  else none
  else
  (R0 v0 5).bind fun x12 =>
  (R0 v0 4).bind fun x14 =>
  if mIx K x14 1 v3 then
  if mIx K x12 4 (I0 x14 (v3).toNatClampNeg) then
  (some (mup J x12 ((I0 x14 (v3).toNatClampNeg)).toNatClampNeg ((J x12 ((I0 x14 (v3).toNatClampNeg)).toNatClampNeg) + v1))).bind fun J18 =>
  (R0 v0 6).bind fun x20 =>
  if mIx K x20 4 v3 then
  (some (mup J18 x20 (v3).toNatClampNeg ((J18 x20 (v3).toNatClampNeg) - v1))).bind fun J23 =>
  f_X4_shiftPrices_L2 K v0 v1 I0 R0 N (v3 + (1 : Int32)) J23
  else none
  else none
  else none
  else none
  else none
def f_X4_shiftPrices (K : mK) (a0 : Nat) (a1 : Int64) (I0 : mI) (J0 : mJ) (R0 : mR) : Option mJ :=
  (f_X4_shiftPrices_L2 K a0 a1 I0 R0 8192 (0 : Int32) J0).bind fun z25 =>
  some z25
set_option maxHeartbeats 4000000 in
set_option maxRecDepth 100000 in
theorem r_X4_shiftPrices (l : Launch) (g : mG) (K : mK) (n : Nat) (hJ : mInj g n) (hO : mOk K n) (a0 : Nat) (a1 : Int64) (I0 : mI) (J0 : mJ) (R0 : mR) (out : mJ) (hf : f_X4_shiftPrices K a0 a1 I0 J0 R0 = some out) : Met l yX4_shiftPrices (mWs yX4_shiftPrices cX4_shiftPrices 4 none) ({ frames := 0, cells := 0, slots := 0, locals := 0 }) (va_Pc [.ref (g.2.1 a0), .long a1] (mB g K n I0 J0 R0)) (mQ g K n none I0 out R0) 0 0 (mA g n) := by
  unfold f_X4_shiftPrices at hf
  refine mStart RX4 hJ hO (by decide) rfl (Nat.le_of_ble_eq_true rfl) ?_
  intro p e s m below meth c ls Qm hQm B hr hlk hw hl
  have hx := B.1.1
  have hb := B.1.2.1
  have hl : lv_has ls 4 [(0, .ref (g.2.1 a0)), (1, .long a1)] := hl
  have L2 : ∀ (N : Nat) (v0 : Nat) (v1 : Int64) (v3 : Int32) (J : mJ) (z : mJ) (H : Heap) (locs : List Loc) (ls : Array Slot), f_X4_shiftPrices_L2 K v0 v1 I0 R0 N v3 J = some z → mHp g K n s I0 J R0 H locs → lv_has ls 4 [(0, .ref (g.2.1 v0)), (1, .long v1), (3, .int v3)] → (∀ (H : Heap) (locs : List Loc) (ls : Array Slot), mHp g K n s I0 z R0 H locs → lv_has ls 4 [] → W p l e ({ frames := 0, cells := 0, slots := 0, locals := 0 } : Room) s m ([.ref (g.2.1 a0), .long a1] : List Value).toArray below meth c H locs 0 0 Qm (F0 m 61 ls [])) → W p l e ({ frames := 0, cells := 0, slots := 0, locals := 0 } : Room) s m ([.ref (g.2.1 a0), .long a1] : List Value).toArray below meth c H locs 0 0 Qm (F0 m 2 ls []) := by
    intro N
    induction N with
    | zero =>
      intro v0 v1 v3 J z H locs ls hf hw hl kx
      rw [f_X4_shiftPrices_L2] at hf
      cases hf
    | succ N ih =>
      intro v0 v1 v3 J z H locs ls hf hw hl kx
      rw [f_X4_shiftPrices_L2] at hf
      refine lv_iload_n hx hb dX4_shiftPrices_2 rfl (lv_at hl 2 rfl) ?_
      refine lv_bipush (v := (13 : Int32)) hx hb dX4_shiftPrices_3 (by decide) ?_
      refine lv_icmp_ge (tgt := 61) hx hb dX4_shiftPrices_5 (by decide) (fun c1 => ?_) (fun c1 => ?_)
      · replace hf := mT1 c1 hf
        obtain rfl := Option.some.inj hf
        exact kx _ _ _ hw (lv_sub hl [] rfl)
      · replace hf := mF1 c1 hf
        refine lv_aload_n hx hb dX4_shiftPrices_8 rfl (lv_at hl 0 rfl) ?_
        obtain ⟨h2, hf⟩ := mChk hf
        obtain ⟨x3, e4, hf⟩ := mBind hf
        refine mgr B hw flX4_41 rfl h2 e4 dX4_shiftPrices_9 ?_
        refine lv_iload_n hx hb dX4_shiftPrices_12 rfl (lv_at hl 2 rfl) ?_
        obtain ⟨h5, hf⟩ := mChk hf
        refine mld3 B hw h5 dX4_shiftPrices_13 ?_
        refine lv_if_eq (tgt := 45) hx hb dX4_shiftPrices_14 (by decide) (fun c6 => ?_) (fun c6 => ?_)
        · replace hf := mT1 c6 hf
          refine lv_aload_n hx hb dX4_shiftPrices_45 rfl (lv_at hl 0 rfl) ?_
          obtain ⟨x7, e8, hf⟩ := mBind hf
          refine mgr B hw flX4_35 rfl h2 e8 dX4_shiftPrices_46 ?_
          refine lv_iload_n hx hb dX4_shiftPrices_49 rfl (lv_at hl 2 rfl) ?_
          refine lv_dup2_11 hx hb dX4_shiftPrices_50 rfl rfl ?_
          obtain ⟨h9, hf⟩ := mChk hf
          refine mld4 B hw h9 dX4_shiftPrices_51 ?_
          refine lv_lload_n hx hb dX4_shiftPrices_52 rfl (lv_at hl 1 rfl) ?_
          refine lv_lsub hx hb dX4_shiftPrices_53 ?_
          obtain ⟨J10, e11, hf⟩ := mLet hf
          refine mst4 B hw h9 dX4_shiftPrices_54 (fun H locs hw => ?_)
          rw [← e11] at hw
          refine lv_iinc (v := (v3 + (1 : Int32))) (lv' := [(3, .int (v3 + (1 : Int32))), (0, .ref (g.2.1 v0)), (1, .long v1)]) hx hb dX4_shiftPrices_55 hl (k := 2) rfl rfl (by decide) rfl (fun ls hl => ?_)
          refine lv_goto (tgt := 2) hx hb dX4_shiftPrices_58 (by decide) ?_
          exact ih v0 v1 (v3 + (1 : Int32)) J10 z _ _ _ hf hw (lv_sub hl [1, 2, 0] rfl) kx
        · replace hf := mF1 c6 hf
          refine lv_aload_n hx hb dX4_shiftPrices_17 rfl (lv_at hl 0 rfl) ?_
          obtain ⟨x12, e13, hf⟩ := mBind hf
          refine mgr B hw flX4_28 rfl h2 e13 dX4_shiftPrices_18 ?_
          refine lv_aload_n hx hb dX4_shiftPrices_21 rfl (lv_at hl 0 rfl) ?_
          obtain ⟨x14, e15, hf⟩ := mBind hf
          refine mgr B hw flX4_25 rfl h2 e15 dX4_shiftPrices_22 ?_
          refine lv_iload_n hx hb dX4_shiftPrices_25 rfl (lv_at hl 2 rfl) ?_
          obtain ⟨h16, hf⟩ := mChk hf
          refine mld1 B hw h16 dX4_shiftPrices_26 ?_
          refine lv_dup2_11 hx hb dX4_shiftPrices_27 rfl rfl ?_
          obtain ⟨h17, hf⟩ := mChk hf
          refine mld4 B hw h17 dX4_shiftPrices_28 ?_
          refine lv_lload_n hx hb dX4_shiftPrices_29 rfl (lv_at hl 1 rfl) ?_
          refine lv_ladd hx hb dX4_shiftPrices_30 ?_
          obtain ⟨J18, e19, hf⟩ := mLet hf
          refine mst4 B hw h17 dX4_shiftPrices_31 (fun H locs hw => ?_)
          rw [← e19] at hw
          refine lv_aload_n hx hb dX4_shiftPrices_32 rfl (lv_at hl 0 rfl) ?_
          obtain ⟨x20, e21, hf⟩ := mBind hf
          refine mgr B hw flX4_32 rfl h2 e21 dX4_shiftPrices_33 ?_
          refine lv_iload_n hx hb dX4_shiftPrices_36 rfl (lv_at hl 2 rfl) ?_
          refine lv_dup2_11 hx hb dX4_shiftPrices_37 rfl rfl ?_
          obtain ⟨h22, hf⟩ := mChk hf
          refine mld4 B hw h22 dX4_shiftPrices_38 ?_
          refine lv_lload_n hx hb dX4_shiftPrices_39 rfl (lv_at hl 1 rfl) ?_
          refine lv_lsub hx hb dX4_shiftPrices_40 ?_
          obtain ⟨J23, e24, hf⟩ := mLet hf
          refine mst4 B hw h22 dX4_shiftPrices_41 (fun H locs hw => ?_)
          rw [← e24] at hw
          refine lv_goto (tgt := 55) hx hb dX4_shiftPrices_42 (by decide) ?_
          refine lv_iinc (v := (v3 + (1 : Int32))) (lv' := [(3, .int (v3 + (1 : Int32))), (0, .ref (g.2.1 v0)), (1, .long v1)]) hx hb dX4_shiftPrices_55 hl (k := 2) rfl rfl (by decide) rfl (fun ls hl => ?_)
          refine lv_goto (tgt := 2) hx hb dX4_shiftPrices_58 (by decide) ?_
          exact ih v0 v1 (v3 + (1 : Int32)) J23 z _ _ _ hf hw (lv_sub hl [1, 2, 0] rfl) kx
  refine lv_iconst (v := (0 : Int32)) hx hb dX4_shiftPrices_0 (by decide) ?_
  refine lv_istore_n (lv' := [(3, .int (0 : Int32)), (0, .ref (g.2.1 a0)), (1, .long a1)]) hx hb dX4_shiftPrices_1 rfl hl (by decide) rfl (fun ls hl => ?_)
  obtain ⟨z25, e26, hf⟩ := mBind hf
  refine L2 8192 a0 a1 (0 : Int32) J0 z25 _ _ _ e26 hw (lv_sub hl [1, 2, 0] rfl) (fun H locs ls hw hl => ?_)
  rw [hQm, ← Option.some.inj hf]
  exact mrv hx hb hr hlk hw dX4_shiftPrices_61
def f_X4_place_L2 (K : mK) (v0 : Nat) (v1 : Int32) (R0 : mR) : Nat → Int32 → mI → mJ → Option (mI × mJ)
  | 0, _, _, _ => none
  | N + 1, v2, I, J =>
  if (13 : Int32) ≤ v2 then
  some (I, J)
  else
  if K v0 = (0, 4) then
  (R0 v0 7).bind fun x3 =>
  if mIx K x3 4 v2 then
  (some (mup J x3 (v2).toNatClampNeg (4000000000000000000 : Int64))).bind fun J6 =>
  (R0 v0 9).bind fun x8 =>
  if mIx K x8 3 v2 then
  (some (mup I x8 (v2).toNatClampNeg (mb false))).bind fun I11 =>
  f_X4_place_L2 K v0 v1 R0 N (v2 + (1 : Int32)) I11 J6
  else none
  else none
  else none
def f_X4_place_L91 (K : mK) (v0 : Nat) (J : mJ) (R0 : mR) : Nat → Int32 → Int32 → mI → Option mI
  | 0, _, _, _ => none
  | N + 1, v2, v3, I =>
  if (13 : Int32) ≤ v3 then
  some I
  else
  if v2 = 0 then
  some I
  else
  if K v0 = (0, 4) then
  (R0 v0 8).bind fun x16 =>
  if mIx K x16 1 v2 then
  (R0 v0 4).bind fun x19 =>
  if mIx K x19 1 (I x16 (v2).toNatClampNeg) then
  if mIx K x19 1 v2 then
  (some (mup I x19 (v2).toNatClampNeg (I x19 ((I x16 (v2).toNatClampNeg)).toNatClampNeg))).bind fun I23 =>
  f_X4_place_L91 K v0 J R0 N (I x16 (v2).toNatClampNeg) (v3 + (1 : Int32)) I23
  else none
  else none
  else none
  else none
def f_X4_place_L41 (K : mK) (v0 : Nat) (R0 : mR) : Nat → Int32 → Int32 → mI → mJ → Option (Int32 × mI × mJ)
  | 0, _, _, _, _ => none
  | N + 1, v2, v3, I, J =>
  if (13 : Int32) ≤ v3 then
  some (v2, I, J)
  else
  if K v0 = (0, 4) then
  (R0 v0 4).bind fun x27 =>
  if mIx K x27 1 v2 then
  if (I x27 (v2).toNatClampNeg) = 0 then
  some (v2, I, J)
  else
  (R0 v0 9).bind fun x31 =>
  if mIx K x31 3 v2 then
  (some (mup I x31 (v2).toNatClampNeg (mb true))).bind fun I34 =>
  (f_X4_measure K v0 v2 I34 J R0).bind fun z36 =>
  (f_X4_nearest K v0 z36.1 z36.2 R0).bind fun z38 =>
  (R0 v0 7).bind fun x40 =>
  if mIx K x40 4 z38 then
  (f_X4_shiftPrices K v0 (z36.2 x40 (z38).toNatClampNeg) z36.1 z36.2 R0).bind fun z43 =>
  f_X4_place_L41 K v0 R0 N z38 (v3 + (1 : Int32)) z36.1 z43
  else none
  else none
  else none
  else none
def f_X4_place (K : mK) (a0 : Nat) (a1 : Int32) (I0 : mI) (J0 : mJ) (R0 : mR) : Option (mI × mJ) :=
  (f_X4_place_L2 K a0 a1 R0 8192 (0 : Int32) I0 J0).bind fun z45 =>
  if K a0 = (0, 4) then
  (R0 a0 4).bind fun x48 =>
  if mIx K x48 1 (0 : Int32) then
  (some (mup z45.1 x48 ((0 : Int32)).toNatClampNeg a1)).bind fun I51 =>
  (f_X4_place_L41 K a0 R0 8192 (0 : Int32) (0 : Int32) I51 z45.2).bind fun z53 =>
  (f_X4_place_L91 K a0 z53.2.2 R0 8192 z53.1 (0 : Int32) z53.2.1).bind fun z55 =>
  some (z55, z53.2.2)
  else none
  else none
set_option maxHeartbeats 4000000 in
set_option maxRecDepth 100000 in
theorem r_X4_place (l : Launch) (g : mG) (K : mK) (n : Nat) (hJ : mInj g n) (hO : mOk K n) (a0 : Nat) (a1 : Int32) (I0 : mI) (J0 : mJ) (R0 : mR) (out : (mI × mJ)) (hf : f_X4_place K a0 a1 I0 J0 R0 = some out) : Met l yX4_place (mWs yX4_place cX4_place 5 none) ({ frames := 1, cells := 0, slots := 0, locals := 25 }) (va_Pc [.ref (g.2.1 a0), .int a1] (mB g K n I0 J0 R0)) (mQ g K n none out.1 out.2 R0) 0 0 (mA g n) := by
  unfold f_X4_place at hf
  refine mStart RX4 hJ hO (by decide) rfl (Nat.le_of_ble_eq_true rfl) ?_
  intro p e s m below meth c ls Qm hQm B hr hlk hw hl
  have hx := B.1.1
  have hb := B.1.2.1
  have hl : lv_has ls 5 [(0, .ref (g.2.1 a0)), (1, .int a1)] := hl
  have L2 : ∀ (N : Nat) (v0 : Nat) (v1 : Int32) (v2 : Int32) (I : mI) (J : mJ) (z : (mI × mJ)) (H : Heap) (locs : List Loc) (ls : Array Slot), f_X4_place_L2 K v0 v1 R0 N v2 I J = some z → mHp g K n s I J R0 H locs → lv_has ls 5 [(0, .ref (g.2.1 v0)), (1, .int v1), (2, .int v2)] → (∀ (H : Heap) (locs : List Loc) (ls : Array Slot), mHp g K n s z.1 z.2 R0 H locs → lv_has ls 5 [(0, .ref (g.2.1 v0)), (1, .int v1)] → W p l e ({ frames := 1, cells := 0, slots := 0, locals := 25 } : Room) s m ([.ref (g.2.1 a0), .int a1] : List Value).toArray below meth c H locs 0 0 Qm (F0 m 30 ls [])) → W p l e ({ frames := 1, cells := 0, slots := 0, locals := 25 } : Room) s m ([.ref (g.2.1 a0), .int a1] : List Value).toArray below meth c H locs 0 0 Qm (F0 m 2 ls []) := by
    intro N
    induction N with
    | zero =>
      intro v0 v1 v2 I J z H locs ls hf hw hl kx
      rw [f_X4_place_L2] at hf
      cases hf
    | succ N ih =>
      intro v0 v1 v2 I J z H locs ls hf hw hl kx
      rw [f_X4_place_L2] at hf
      refine lv_iload_n hx hb dX4_place_2 rfl (lv_at hl 2 rfl) ?_
      refine lv_bipush (v := (13 : Int32)) hx hb dX4_place_3 (by decide) ?_
      refine lv_icmp_ge (tgt := 30) hx hb dX4_place_5 (by decide) (fun c1 => ?_) (fun c1 => ?_)
      · replace hf := mT1 c1 hf
        obtain rfl := Option.some.inj hf
        exact kx _ _ _ hw (lv_sub hl [0, 1] rfl)
      · replace hf := mF1 c1 hf
        refine lv_aload_n hx hb dX4_place_8 rfl (lv_at hl 0 rfl) ?_
        obtain ⟨h2, hf⟩ := mChk hf
        obtain ⟨x3, e4, hf⟩ := mBind hf
        refine mgr B hw flX4_35 rfl h2 e4 dX4_place_9 ?_
        refine lv_iload_n hx hb dX4_place_12 rfl (lv_at hl 2 rfl) ?_
        refine lv_ldc2 (v := (4000000000000000000 : Int64)) hx hb B.1.2.2.2.1 (B.1.2.2.2.2 (Cond.constantLong RX4 66 (4000000000000000000 : Int64)) (mT_at 471 rfl rfl)) dX4_place_13 ?_
        obtain ⟨h5, hf⟩ := mChk hf
        obtain ⟨J6, e7, hf⟩ := mLet hf
        refine mst4 B hw h5 dX4_place_16 (fun H locs hw => ?_)
        rw [← e7] at hw
        refine lv_aload_n hx hb dX4_place_17 rfl (lv_at hl 0 rfl) ?_
        obtain ⟨x8, e9, hf⟩ := mBind hf
        refine mgr B hw flX4_41 rfl h2 e9 dX4_place_18 ?_
        refine lv_iload_n hx hb dX4_place_21 rfl (lv_at hl 2 rfl) ?_
        refine lv_iconst (v := (0 : Int32)) hx hb dX4_place_22 (by decide) ?_
        obtain ⟨h10, hf⟩ := mChk hf
        obtain ⟨I11, e12, hf⟩ := mLet hf
        refine mst3 (x := false) B hw h10 dX4_place_23 (fun H locs hw => ?_)
        rw [← e12] at hw
        refine lv_iinc (v := (v2 + (1 : Int32))) (lv' := [(2, .int (v2 + (1 : Int32))), (0, .ref (g.2.1 v0)), (1, .int v1)]) hx hb dX4_place_24 hl (k := 2) rfl rfl (by decide) rfl (fun ls hl => ?_)
        refine lv_goto (tgt := 2) hx hb dX4_place_27 (by decide) ?_
        exact ih v0 v1 (v2 + (1 : Int32)) I11 J6 z _ _ _ hf hw (lv_sub hl [1, 2, 0] rfl) kx
  have L91 : ∀ (N : Nat) (v0 : Nat) (v2 : Int32) (v3 : Int32) (I : mI) (J : mJ) (z : mI) (H : Heap) (locs : List Loc) (ls : Array Slot), f_X4_place_L91 K v0 J R0 N v2 v3 I = some z → mHp g K n s I J R0 H locs → lv_has ls 5 [(0, .ref (g.2.1 v0)), (2, .int v2), (3, .int v3)] → (∀ (H : Heap) (locs : List Loc) (ls : Array Slot), mHp g K n s z J R0 H locs → lv_has ls 5 [] → W p l e ({ frames := 1, cells := 0, slots := 0, locals := 25 } : Room) s m ([.ref (g.2.1 a0), .int a1] : List Value).toArray below meth c H locs 0 0 Qm (F0 m 131 ls [])) → W p l e ({ frames := 1, cells := 0, slots := 0, locals := 25 } : Room) s m ([.ref (g.2.1 a0), .int a1] : List Value).toArray below meth c H locs 0 0 Qm (F0 m 91 ls []) := by
    intro N
    induction N with
    | zero =>
      intro v0 v2 v3 I J z H locs ls hf hw hl kx
      rw [f_X4_place_L91] at hf
      cases hf
    | succ N ih =>
      intro v0 v2 v3 I J z H locs ls hf hw hl kx
      rw [f_X4_place_L91] at hf
      refine lv_iload_n hx hb dX4_place_91 rfl (lv_at hl 2 rfl) ?_
      refine lv_bipush (v := (13 : Int32)) hx hb dX4_place_92 (by decide) ?_
      refine lv_icmp_ge (tgt := 131) hx hb dX4_place_94 (by decide) (fun c13 => ?_) (fun c13 => ?_)
      · replace hf := mT1 c13 hf
        obtain rfl := Option.some.inj hf
        exact kx _ _ _ hw (lv_sub hl [] rfl)
      · replace hf := mF1 c13 hf
        refine lv_iload_n hx hb dX4_place_97 rfl (lv_at hl 1 rfl) ?_
        refine lv_if_eq (tgt := 131) hx hb dX4_place_98 (by decide) (fun c14 => ?_) (fun c14 => ?_)
        · replace hf := mT1 c14 hf
          obtain rfl := Option.some.inj hf
          exact kx _ _ _ hw (lv_sub hl [] rfl)
        · replace hf := mF1 c14 hf
          refine lv_aload_n hx hb dX4_place_101 rfl (lv_at hl 0 rfl) ?_
          obtain ⟨h15, hf⟩ := mChk hf
          obtain ⟨x16, e17, hf⟩ := mBind hf
          refine mgr B hw flX4_38 rfl h15 e17 dX4_place_102 ?_
          refine lv_iload_n hx hb dX4_place_105 rfl (lv_at hl 1 rfl) ?_
          obtain ⟨h18, hf⟩ := mChk hf
          refine mld1 B hw h18 dX4_place_106 ?_
          refine lv_istore (lv' := [(4, .int (I x16 (v2).toNatClampNeg)), (0, .ref (g.2.1 v0)), (2, .int v2), (3, .int v3)]) hx hb dX4_place_107 hl (by decide) rfl (fun ls hl => ?_)
          refine lv_aload_n hx hb dX4_place_109 rfl (lv_at hl 1 rfl) ?_
          obtain ⟨x19, e20, hf⟩ := mBind hf
          refine mgr B hw flX4_25 rfl h15 e20 dX4_place_110 ?_
          refine lv_iload_n hx hb dX4_place_113 rfl (lv_at hl 2 rfl) ?_
          refine lv_aload_n hx hb dX4_place_114 rfl (lv_at hl 1 rfl) ?_
          refine mgr B hw flX4_25 rfl h15 e20 dX4_place_115 ?_
          refine lv_iload hx hb dX4_place_118 (lv_at hl 0 rfl) ?_
          obtain ⟨h21, hf⟩ := mChk hf
          refine mld1 B hw h21 dX4_place_120 ?_
          obtain ⟨h22, hf⟩ := mChk hf
          obtain ⟨I23, e24, hf⟩ := mLet hf
          refine mst1 B hw h22 dX4_place_121 (fun H locs hw => ?_)
          rw [← e24] at hw
          refine lv_iload hx hb dX4_place_122 (lv_at hl 0 rfl) ?_
          refine lv_istore_n (lv' := [(2, .int (I x16 (v2).toNatClampNeg)), (4, .int (I x16 (v2).toNatClampNeg)), (0, .ref (g.2.1 v0)), (3, .int v3)]) hx hb dX4_place_124 rfl hl (by decide) rfl (fun ls hl => ?_)
          refine lv_iinc (v := (v3 + (1 : Int32))) (lv' := [(3, .int (v3 + (1 : Int32))), (2, .int (I x16 (v2).toNatClampNeg)), (4, .int (I x16 (v2).toNatClampNeg)), (0, .ref (g.2.1 v0))]) hx hb dX4_place_125 hl (k := 3) rfl rfl (by decide) rfl (fun ls hl => ?_)
          refine lv_goto (tgt := 91) hx hb dX4_place_128 (by decide) ?_
          exact ih v0 (I x16 (v2).toNatClampNeg) (v3 + (1 : Int32)) I23 J z _ _ _ hf hw (lv_sub hl [3, 1, 0] rfl) kx
  have L41 : ∀ (N : Nat) (v0 : Nat) (v2 : Int32) (v3 : Int32) (I : mI) (J : mJ) (z : (Int32 × mI × mJ)) (H : Heap) (locs : List Loc) (ls : Array Slot), f_X4_place_L41 K v0 R0 N v2 v3 I J = some z → mHp g K n s I J R0 H locs → lv_has ls 5 [(0, .ref (g.2.1 v0)), (2, .int v2), (3, .int v3)] → (∀ (H : Heap) (locs : List Loc) (ls : Array Slot), mHp g K n s z.2.1 z.2.2 R0 H locs → lv_has ls 5 [(0, .ref (g.2.1 v0)), (2, .int z.1)] → W p l e ({ frames := 1, cells := 0, slots := 0, locals := 25 } : Room) s m ([.ref (g.2.1 a0), .int a1] : List Value).toArray below meth c H locs 0 0 Qm (F0 m 89 ls [])) → W p l e ({ frames := 1, cells := 0, slots := 0, locals := 25 } : Room) s m ([.ref (g.2.1 a0), .int a1] : List Value).toArray below meth c H locs 0 0 Qm (F0 m 41 ls []) := by
    intro N
    induction N with
    | zero =>
      intro v0 v2 v3 I J z H locs ls hf hw hl kx
      rw [f_X4_place_L41] at hf
      cases hf
    | succ N ih =>
      intro v0 v2 v3 I J z H locs ls hf hw hl kx
      rw [f_X4_place_L41] at hf
      refine lv_iload_n hx hb dX4_place_41 rfl (lv_at hl 2 rfl) ?_
      refine lv_bipush (v := (13 : Int32)) hx hb dX4_place_42 (by decide) ?_
      refine lv_icmp_ge (tgt := 89) hx hb dX4_place_44 (by decide) (fun c25 => ?_) (fun c25 => ?_)
      · replace hf := mT1 c25 hf
        obtain rfl := Option.some.inj hf
        exact kx _ _ _ hw (lv_sub hl [0, 1] rfl)
      · replace hf := mF1 c25 hf
        refine lv_aload_n hx hb dX4_place_47 rfl (lv_at hl 0 rfl) ?_
        obtain ⟨h26, hf⟩ := mChk hf
        obtain ⟨x27, e28, hf⟩ := mBind hf
        refine mgr B hw flX4_25 rfl h26 e28 dX4_place_48 ?_
        refine lv_iload_n hx hb dX4_place_51 rfl (lv_at hl 1 rfl) ?_
        obtain ⟨h29, hf⟩ := mChk hf
        refine mld1 B hw h29 dX4_place_52 ?_
        refine lv_if_eq (tgt := 89) hx hb dX4_place_53 (by decide) (fun c30 => ?_) (fun c30 => ?_)
        · replace hf := mT1 c30 hf
          obtain rfl := Option.some.inj hf
          exact kx _ _ _ hw (lv_sub hl [0, 1] rfl)
        · replace hf := mF1 c30 hf
          refine lv_aload_n hx hb dX4_place_56 rfl (lv_at hl 0 rfl) ?_
          obtain ⟨x31, e32, hf⟩ := mBind hf
          refine mgr B hw flX4_41 rfl h26 e32 dX4_place_57 ?_
          refine lv_iload_n hx hb dX4_place_60 rfl (lv_at hl 1 rfl) ?_
          refine lv_iconst (v := (1 : Int32)) hx hb dX4_place_61 (by decide) ?_
          obtain ⟨h33, hf⟩ := mChk hf
          obtain ⟨I34, e35, hf⟩ := mLet hf
          refine mst3 (x := true) B hw h33 dX4_place_62 (fun H locs hw => ?_)
          rw [← e35] at hw
          refine lv_aload_n hx hb dX4_place_63 rfl (lv_at hl 0 rfl) ?_
          refine lv_iload_n hx hb dX4_place_64 rfl (lv_at hl 1 rfl) ?_
          obtain ⟨z36, e37, hf⟩ := mBind hf
          refine mcallV (rest := []) (ci := 4) B hw [.int v2] clX4_68 rfl h26 (r_X4_measure l g K n hJ hO v0 v2 I34 J R0 z36 e37) ⟨rfl, rfl, Nat.le_of_ble_eq_true rfl, Nat.le_of_ble_eq_true rfl⟩ rfl hl.1 (Nat.le_of_ble_eq_true rfl) ⟨Nat.zero_le _, Nat.zero_le _⟩ dX4_place_65 (fun H locs hw => ?_)
          refine W.eq (g2 := F0 m 68 ls []) rfl ?_
          refine lv_aload_n hx hb dX4_place_68 rfl (lv_at hl 0 rfl) ?_
          obtain ⟨z38, e39, hf⟩ := mBind hf
          refine mcallV (rest := []) (ci := 4) B hw [] clX4_71 rfl h26 (r_X4_nearest l g K n hJ hO v0 z36.1 z36.2 R0 z38 e39) ⟨rfl, rfl, Nat.le_of_ble_eq_true rfl, Nat.le_of_ble_eq_true rfl⟩ rfl hl.1 (Nat.le_of_ble_eq_true rfl) ⟨Nat.zero_le _, Nat.zero_le _⟩ dX4_place_69 (fun H locs hw => ?_)
          refine W.eq (g2 := F0 m 72 ls [.int z38]) rfl ?_
          refine lv_istore_n (lv' := [(2, .int z38), (0, .ref (g.2.1 v0)), (3, .int v3)]) hx hb dX4_place_72 rfl hl (by decide) rfl (fun ls hl => ?_)
          refine lv_aload_n hx hb dX4_place_73 rfl (lv_at hl 1 rfl) ?_
          refine lv_aload_n hx hb dX4_place_74 rfl (lv_at hl 1 rfl) ?_
          obtain ⟨x40, e41, hf⟩ := mBind hf
          refine mgr B hw flX4_35 rfl h26 e41 dX4_place_75 ?_
          refine lv_iload_n hx hb dX4_place_78 rfl (lv_at hl 0 rfl) ?_
          obtain ⟨h42, hf⟩ := mChk hf
          refine mld4 B hw h42 dX4_place_79 ?_
          obtain ⟨z43, e44, hf⟩ := mBind hf
          refine mcallV (rest := []) (ci := 4) B hw [.long (z36.2 x40 (z38).toNatClampNeg)] clX4_75 rfl h26 (r_X4_shiftPrices l g K n hJ hO v0 (z36.2 x40 (z38).toNatClampNeg) z36.1 z36.2 R0 z43 e44) ⟨rfl, rfl, Nat.le_of_ble_eq_true rfl, Nat.le_of_ble_eq_true rfl⟩ rfl hl.1 (Nat.le_of_ble_eq_true rfl) ⟨Nat.zero_le _, Nat.zero_le _⟩ dX4_place_80 (fun H locs hw => ?_)
          refine W.eq (g2 := F0 m 83 ls []) rfl ?_
          refine lv_iinc (v := (v3 + (1 : Int32))) (lv' := [(3, .int (v3 + (1 : Int32))), (2, .int z38), (0, .ref (g.2.1 v0))]) hx hb dX4_place_83 hl (k := 2) rfl rfl (by decide) rfl (fun ls hl => ?_)
          refine lv_goto (tgt := 41) hx hb dX4_place_86 (by decide) ?_
          exact ih v0 z38 (v3 + (1 : Int32)) z36.1 z43 z _ _ _ hf hw (lv_sub hl [2, 1, 0] rfl) kx
  refine lv_iconst (v := (0 : Int32)) hx hb dX4_place_0 (by decide) ?_
  refine lv_istore_n (lv' := [(2, .int (0 : Int32)), (0, .ref (g.2.1 a0)), (1, .int a1)]) hx hb dX4_place_1 rfl hl (by decide) rfl (fun ls hl => ?_)
  obtain ⟨z45, e46, hf⟩ := mBind hf
  refine L2 8192 a0 a1 (0 : Int32) I0 J0 z45 _ _ _ e46 hw (lv_sub hl [1, 2, 0] rfl) (fun H locs ls hw hl => ?_)
  refine lv_aload_n hx hb dX4_place_30 rfl (lv_at hl 0 rfl) ?_
  obtain ⟨h47, hf⟩ := mChk hf
  obtain ⟨x48, e49, hf⟩ := mBind hf
  refine mgr B hw flX4_25 rfl h47 e49 dX4_place_31 ?_
  refine lv_iconst (v := (0 : Int32)) hx hb dX4_place_34 (by decide) ?_
  refine lv_iload_n hx hb dX4_place_35 rfl (lv_at hl 1 rfl) ?_
  obtain ⟨h50, hf⟩ := mChk hf
  obtain ⟨I51, e52, hf⟩ := mLet hf
  refine mst1 B hw h50 dX4_place_36 (fun H locs hw => ?_)
  rw [← e52] at hw
  refine lv_iconst (v := (0 : Int32)) hx hb dX4_place_37 (by decide) ?_
  refine lv_istore_n (lv' := [(2, .int (0 : Int32)), (0, .ref (g.2.1 a0)), (1, .int a1)]) hx hb dX4_place_38 rfl hl (by decide) rfl (fun ls hl => ?_)
  refine lv_iconst (v := (0 : Int32)) hx hb dX4_place_39 (by decide) ?_
  refine lv_istore_n (lv' := [(3, .int (0 : Int32)), (2, .int (0 : Int32)), (0, .ref (g.2.1 a0)), (1, .int a1)]) hx hb dX4_place_40 rfl hl (by decide) rfl (fun ls hl => ?_)
  obtain ⟨z53, e54, hf⟩ := mBind hf
  refine L41 8192 a0 (0 : Int32) (0 : Int32) I51 z45.2 z53 _ _ _ e54 hw (lv_sub hl [2, 1, 0] rfl) (fun H locs ls hw hl => ?_)
  refine lv_iconst (v := (0 : Int32)) hx hb dX4_place_89 (by decide) ?_
  refine lv_istore_n (lv' := [(3, .int (0 : Int32)), (0, .ref (g.2.1 a0)), (2, .int z53.1)]) hx hb dX4_place_90 rfl hl (by decide) rfl (fun ls hl => ?_)
  obtain ⟨z55, e56, hf⟩ := mBind hf
  refine L91 8192 a0 z53.1 (0 : Int32) z53.2.1 z53.2.2 z55 _ _ _ e56 hw (lv_sub hl [1, 2, 0] rfl) (fun H locs ls hw hl => ?_)
  rw [hQm, ← Option.some.inj hf]
  exact mrv hx hb hr hlk hw dX4_place_131
def f_X4_readOff_L7 (K : mK) (v0 : Nat) (J0 : mJ) (R0 : mR) : Nat → Int32 → mI → Option mI
  | 0, _, _ => none
  | N + 1, v1, I =>
  if (12 : Int32) ≤ v1 then
  some I
  else
  if K v0 = (0, 4) then
  (R0 v0 1).bind fun x3 =>
  if mIx K x3 1 v1 then
  (some (mup I x3 (v1).toNatClampNeg (-1 : Int32))).bind fun I6 =>
  f_X4_readOff_L7 K v0 J0 R0 N (v1 + (1 : Int32)) I6
  else none
  else none
def f_X4_readOff_L28 (K : mK) (v0 : Nat) (J0 : mJ) (R0 : mR) : Nat → Int32 → mI → Option mI
  | 0, _, _ => none
  | N + 1, v1, I =>
  if (13 : Int32) ≤ v1 then
  some I
  else
  if K v0 = (0, 4) then
  (R0 v0 4).bind fun x10 =>
  if mIx K x10 1 v1 then
  if ((I x10 (v1).toNatClampNeg) - (1 : Int32)) < 0 then
  f_X4_readOff_L28 K v0 J0 R0 N (v1 + (1 : Int32)) I
  else
  (R0 v0 0).bind fun x14 =>
  if mIx K x14 6 ((I x10 (v1).toNatClampNeg) - (1 : Int32)) then
  (R0 x14 (((I x10 (v1).toNatClampNeg) - (1 : Int32))).toNatClampNeg).bind fun x17 =>
  if mIx K x17 1 (v1 - (1 : Int32)) then
  if (I x17 ((v1 - (1 : Int32))).toNatClampNeg) ≤ 0 then
  f_X4_readOff_L28 K v0 J0 R0 N (v1 + (1 : Int32)) I
  else
  (R0 v0 1).bind fun x21 =>
  if mIx K x21 1 ((I x10 (v1).toNatClampNeg) - (1 : Int32)) then
  (some (mup I x21 (((I x10 (v1).toNatClampNeg) - (1 : Int32))).toNatClampNeg (v1 - (1 : Int32)))).bind fun I24 =>
  (some (mup I24 v0 2 ((I24 v0 2) + (I24 x17 ((v1 - (1 : Int32))).toNatClampNeg)))).bind fun I26 =>
  f_X4_readOff_L28 K v0 J0 R0 N (v1 + (1 : Int32)) I26
  else none
  else none
  else none
  else none
  else none
def f_X4_readOff (K : mK) (a0 : Nat) (I0 : mI) (J0 : mJ) (R0 : mR) : Option mI :=
  if K a0 = (0, 4) then
  (some (mup I0 a0 2 (0 : Int32))).bind fun I29 =>
  (f_X4_readOff_L7 K a0 J0 R0 8192 (0 : Int32) I29).bind fun z31 =>
  (f_X4_readOff_L28 K a0 J0 R0 8192 (1 : Int32) z31).bind fun z33 =>
  some z33
  else none
set_option maxHeartbeats 4000000 in
set_option maxRecDepth 100000 in
theorem r_X4_readOff (l : Launch) (g : mG) (K : mK) (n : Nat) (hJ : mInj g n) (hO : mOk K n) (a0 : Nat) (I0 : mI) (J0 : mJ) (R0 : mR) (out : mI) (hf : f_X4_readOff K a0 I0 J0 R0 = some out) : Met l yX4_readOff (mWs yX4_readOff cX4_readOff 3 none) ({ frames := 0, cells := 0, slots := 0, locals := 0 }) (va_Pc [.ref (g.2.1 a0)] (mB g K n I0 J0 R0)) (mQ g K n none out J0 R0) 0 0 (mA g n) := by
  unfold f_X4_readOff at hf
  refine mStart RX4 hJ hO (by decide) rfl (Nat.le_of_ble_eq_true rfl) ?_
  intro p e s m below meth c ls Qm hQm B hr hlk hw hl
  have hx := B.1.1
  have hb := B.1.2.1
  have hl : lv_has ls 3 [(0, .ref (g.2.1 a0))] := hl
  have L7 : ∀ (N : Nat) (v0 : Nat) (v1 : Int32) (I : mI) (z : mI) (H : Heap) (locs : List Loc) (ls : Array Slot), f_X4_readOff_L7 K v0 J0 R0 N v1 I = some z → mHp g K n s I J0 R0 H locs → lv_has ls 3 [(0, .ref (g.2.1 v0)), (1, .int v1)] → (∀ (H : Heap) (locs : List Loc) (ls : Array Slot), mHp g K n s z J0 R0 H locs → lv_has ls 3 [(0, .ref (g.2.1 v0))] → W p l e ({ frames := 0, cells := 0, slots := 0, locals := 0 } : Room) s m ([.ref (g.2.1 a0)] : List Value).toArray below meth c H locs 0 0 Qm (F0 m 26 ls [])) → W p l e ({ frames := 0, cells := 0, slots := 0, locals := 0 } : Room) s m ([.ref (g.2.1 a0)] : List Value).toArray below meth c H locs 0 0 Qm (F0 m 7 ls []) := by
    intro N
    induction N with
    | zero =>
      intro v0 v1 I z H locs ls hf hw hl kx
      rw [f_X4_readOff_L7] at hf
      cases hf
    | succ N ih =>
      intro v0 v1 I z H locs ls hf hw hl kx
      rw [f_X4_readOff_L7] at hf
      refine lv_iload_n hx hb dX4_readOff_7 rfl (lv_at hl 1 rfl) ?_
      refine lv_bipush (v := (12 : Int32)) hx hb dX4_readOff_8 (by decide) ?_
      refine lv_icmp_ge (tgt := 26) hx hb dX4_readOff_10 (by decide) (fun c1 => ?_) (fun c1 => ?_)
      · replace hf := mT1 c1 hf
        obtain rfl := Option.some.inj hf
        exact kx _ _ _ hw (lv_sub hl [0] rfl)
      · replace hf := mF1 c1 hf
        refine lv_aload_n hx hb dX4_readOff_13 rfl (lv_at hl 0 rfl) ?_
        obtain ⟨h2, hf⟩ := mChk hf
        obtain ⟨x3, e4, hf⟩ := mBind hf
        refine mgr B hw flX4_16 rfl h2 e4 dX4_readOff_14 ?_
        refine lv_iload_n hx hb dX4_readOff_17 rfl (lv_at hl 1 rfl) ?_
        refine lv_iconst (v := (-1 : Int32)) hx hb dX4_readOff_18 (by decide) ?_
        obtain ⟨h5, hf⟩ := mChk hf
        obtain ⟨I6, e7, hf⟩ := mLet hf
        refine mst1 B hw h5 dX4_readOff_19 (fun H locs hw => ?_)
        rw [← e7] at hw
        refine lv_iinc (v := (v1 + (1 : Int32))) (lv' := [(1, .int (v1 + (1 : Int32))), (0, .ref (g.2.1 v0))]) hx hb dX4_readOff_20 hl (k := 1) rfl rfl (by decide) rfl (fun ls hl => ?_)
        refine lv_goto (tgt := 7) hx hb dX4_readOff_23 (by decide) ?_
        exact ih v0 (v1 + (1 : Int32)) I6 z _ _ _ hf hw (lv_sub hl [1, 0] rfl) kx
  have L28 : ∀ (N : Nat) (v0 : Nat) (v1 : Int32) (I : mI) (z : mI) (H : Heap) (locs : List Loc) (ls : Array Slot), f_X4_readOff_L28 K v0 J0 R0 N v1 I = some z → mHp g K n s I J0 R0 H locs → lv_has ls 3 [(0, .ref (g.2.1 v0)), (1, .int v1)] → (∀ (H : Heap) (locs : List Loc) (ls : Array Slot), mHp g K n s z J0 R0 H locs → lv_has ls 3 [] → W p l e ({ frames := 0, cells := 0, slots := 0, locals := 0 } : Room) s m ([.ref (g.2.1 a0)] : List Value).toArray below meth c H locs 0 0 Qm (F0 m 94 ls [])) → W p l e ({ frames := 0, cells := 0, slots := 0, locals := 0 } : Room) s m ([.ref (g.2.1 a0)] : List Value).toArray below meth c H locs 0 0 Qm (F0 m 28 ls []) := by
    intro N
    induction N with
    | zero =>
      intro v0 v1 I z H locs ls hf hw hl kx
      rw [f_X4_readOff_L28] at hf
      cases hf
    | succ N ih =>
      intro v0 v1 I z H locs ls hf hw hl kx
      rw [f_X4_readOff_L28] at hf
      refine lv_iload_n hx hb dX4_readOff_28 rfl (lv_at hl 1 rfl) ?_
      refine lv_bipush (v := (13 : Int32)) hx hb dX4_readOff_29 (by decide) ?_
      refine lv_icmp_ge (tgt := 94) hx hb dX4_readOff_31 (by decide) (fun c8 => ?_) (fun c8 => ?_)
      · replace hf := mT1 c8 hf
        obtain rfl := Option.some.inj hf
        exact kx _ _ _ hw (lv_sub hl [] rfl)
      · replace hf := mF1 c8 hf
        refine lv_aload_n hx hb dX4_readOff_34 rfl (lv_at hl 0 rfl) ?_
        obtain ⟨h9, hf⟩ := mChk hf
        obtain ⟨x10, e11, hf⟩ := mBind hf
        refine mgr B hw flX4_25 rfl h9 e11 dX4_readOff_35 ?_
        refine lv_iload_n hx hb dX4_readOff_38 rfl (lv_at hl 1 rfl) ?_
        obtain ⟨h12, hf⟩ := mChk hf
        refine mld1 B hw h12 dX4_readOff_39 ?_
        refine lv_iconst (v := (1 : Int32)) hx hb dX4_readOff_40 (by decide) ?_
        refine lv_isub hx hb dX4_readOff_41 ?_
        refine lv_istore_n (lv' := [(2, .int ((I x10 (v1).toNatClampNeg) - (1 : Int32))), (0, .ref (g.2.1 v0)), (1, .int v1)]) hx hb dX4_readOff_42 rfl hl (by decide) rfl (fun ls hl => ?_)
        refine lv_iload_n hx hb dX4_readOff_43 rfl (lv_at hl 0 rfl) ?_
        refine lv_if_lt (tgt := 88) hx hb dX4_readOff_44 (by decide) (fun c13 => ?_) (fun c13 => ?_)
        · replace hf := mT1 c13 hf
          refine lv_iinc (v := (v1 + (1 : Int32))) (lv' := [(1, .int (v1 + (1 : Int32))), (2, .int ((I x10 (v1).toNatClampNeg) - (1 : Int32))), (0, .ref (g.2.1 v0))]) hx hb dX4_readOff_88 hl (k := 2) rfl rfl (by decide) rfl (fun ls hl => ?_)
          refine lv_goto (tgt := 28) hx hb dX4_readOff_91 (by decide) ?_
          exact ih v0 (v1 + (1 : Int32)) I z _ _ _ hf hw (lv_sub hl [2, 0] rfl) kx
        · replace hf := mF1 c13 hf
          refine lv_aload_n hx hb dX4_readOff_47 rfl (lv_at hl 1 rfl) ?_
          obtain ⟨x14, e15, hf⟩ := mBind hf
          refine mgr B hw flX4_11 rfl h9 e15 dX4_readOff_48 ?_
          refine lv_iload_n hx hb dX4_readOff_51 rfl (lv_at hl 0 rfl) ?_
          obtain ⟨h16, hf⟩ := mChk hf
          obtain ⟨x17, e18, hf⟩ := mBind hf
          refine mld6 B hw h16 e18 dX4_readOff_52 ?_
          refine lv_iload_n hx hb dX4_readOff_53 rfl (lv_at hl 2 rfl) ?_
          refine lv_iconst (v := (1 : Int32)) hx hb dX4_readOff_54 (by decide) ?_
          refine lv_isub hx hb dX4_readOff_55 ?_
          obtain ⟨h19, hf⟩ := mChk hf
          refine mld1 B hw h19 dX4_readOff_56 ?_
          refine lv_if_le (tgt := 88) hx hb dX4_readOff_57 (by decide) (fun c20 => ?_) (fun c20 => ?_)
          · replace hf := mT1 c20 hf
            refine lv_iinc (v := (v1 + (1 : Int32))) (lv' := [(1, .int (v1 + (1 : Int32))), (2, .int ((I x10 (v1).toNatClampNeg) - (1 : Int32))), (0, .ref (g.2.1 v0))]) hx hb dX4_readOff_88 hl (k := 2) rfl rfl (by decide) rfl (fun ls hl => ?_)
            refine lv_goto (tgt := 28) hx hb dX4_readOff_91 (by decide) ?_
            exact ih v0 (v1 + (1 : Int32)) I z _ _ _ hf hw (lv_sub hl [2, 0] rfl) kx
          · replace hf := mF1 c20 hf
            refine lv_aload_n hx hb dX4_readOff_60 rfl (lv_at hl 1 rfl) ?_
            obtain ⟨x21, e22, hf⟩ := mBind hf
            refine mgr B hw flX4_16 rfl h9 e22 dX4_readOff_61 ?_
            refine lv_iload_n hx hb dX4_readOff_64 rfl (lv_at hl 0 rfl) ?_
            refine lv_iload_n hx hb dX4_readOff_65 rfl (lv_at hl 2 rfl) ?_
            refine lv_iconst (v := (1 : Int32)) hx hb dX4_readOff_66 (by decide) ?_
            refine lv_isub hx hb dX4_readOff_67 ?_
            obtain ⟨h23, hf⟩ := mChk hf
            obtain ⟨I24, e25, hf⟩ := mLet hf
            refine mst1 B hw h23 dX4_readOff_68 (fun H locs hw => ?_)
            rw [← e25] at hw
            refine lv_aload_n hx hb dX4_readOff_69 rfl (lv_at hl 1 rfl) ?_
            refine lv_dup hx hb dX4_readOff_70 rfl ?_
            refine mgi B hw flX4_55 rfl h9 dX4_readOff_71 ?_
            refine lv_aload_n hx hb dX4_readOff_74 rfl (lv_at hl 1 rfl) ?_
            refine mgr B hw flX4_11 rfl h9 e15 dX4_readOff_75 ?_
            refine lv_iload_n hx hb dX4_readOff_78 rfl (lv_at hl 0 rfl) ?_
            refine mld6 B hw h16 e18 dX4_readOff_79 ?_
            refine lv_iload_n hx hb dX4_readOff_80 rfl (lv_at hl 2 rfl) ?_
            refine lv_iconst (v := (1 : Int32)) hx hb dX4_readOff_81 (by decide) ?_
            refine lv_isub hx hb dX4_readOff_82 ?_
            refine mld1 B hw h19 dX4_readOff_83 ?_
            refine lv_iadd hx hb dX4_readOff_84 ?_
            obtain ⟨I26, e27, hf⟩ := mLet hf
            refine mpi B hw puX4_55 rfl h9 dX4_readOff_85 (fun H locs hw => ?_)
            rw [← e27] at hw
            refine lv_iinc (v := (v1 + (1 : Int32))) (lv' := [(1, .int (v1 + (1 : Int32))), (2, .int ((I x10 (v1).toNatClampNeg) - (1 : Int32))), (0, .ref (g.2.1 v0))]) hx hb dX4_readOff_88 hl (k := 2) rfl rfl (by decide) rfl (fun ls hl => ?_)
            refine lv_goto (tgt := 28) hx hb dX4_readOff_91 (by decide) ?_
            exact ih v0 (v1 + (1 : Int32)) I26 z _ _ _ hf hw (lv_sub hl [2, 0] rfl) kx
  refine lv_aload_n hx hb dX4_readOff_0 rfl (lv_at hl 0 rfl) ?_
  refine lv_iconst (v := (0 : Int32)) hx hb dX4_readOff_1 (by decide) ?_
  obtain ⟨h28, hf⟩ := mChk hf
  obtain ⟨I29, e30, hf⟩ := mLet hf
  refine mpi B hw puX4_55 rfl h28 dX4_readOff_2 (fun H locs hw => ?_)
  rw [← e30] at hw
  refine lv_iconst (v := (0 : Int32)) hx hb dX4_readOff_5 (by decide) ?_
  refine lv_istore_n (lv' := [(1, .int (0 : Int32)), (0, .ref (g.2.1 a0))]) hx hb dX4_readOff_6 rfl hl (by decide) rfl (fun ls hl => ?_)
  obtain ⟨z31, e32, hf⟩ := mBind hf
  refine L7 8192 a0 (0 : Int32) I29 z31 _ _ _ e32 hw (lv_sub hl [1, 0] rfl) (fun H locs ls hw hl => ?_)
  refine lv_iconst (v := (1 : Int32)) hx hb dX4_readOff_26 (by decide) ?_
  refine lv_istore_n (lv' := [(1, .int (1 : Int32)), (0, .ref (g.2.1 a0))]) hx hb dX4_readOff_27 rfl hl (by decide) rfl (fun ls hl => ?_)
  obtain ⟨z33, e34, hf⟩ := mBind hf
  refine L28 8192 a0 (1 : Int32) z31 z33 _ _ _ e34 hw (lv_sub hl [1, 0] rfl) (fun H locs ls hw hl => ?_)
  rw [hQm, ← Option.some.inj hf]
  exact mrv hx hb hr hlk hw dX4_readOff_94
def f_X4_settle_L41 (K : mK) (v0 : Nat) (R0 : mR) : Nat → Int32 → mI → mJ → Option (mI × mJ)
  | 0, _, _, _ => none
  | N + 1, v1, I, J =>
  if (13 : Int32) ≤ v1 then
  some (I, J)
  else
  if K v0 = (0, 4) then
  (f_X4_place K v0 v1 I J R0).bind fun z3 =>
  f_X4_settle_L41 K v0 R0 N (v1 + (1 : Int32)) z3.1 z3.2
  else none
def f_X4_settle_L6 (K : mK) (v0 : Nat) (R0 : mR) : Nat → Int32 → mI → mJ → Option (mI × mJ)
  | 0, _, _, _ => none
  | N + 1, v1, I, J =>
  if (13 : Int32) ≤ v1 then
  some (I, J)
  else
  if K v0 = (0, 4) then
  (R0 v0 4).bind fun x7 =>
  if mIx K x7 1 v1 then
  (some (mup I x7 (v1).toNatClampNeg (0 : Int32))).bind fun I10 =>
  (R0 v0 5).bind fun x12 =>
  if mIx K x12 4 v1 then
  (some (mup J x12 (v1).toNatClampNeg (0 : Int64))).bind fun J15 =>
  (R0 v0 6).bind fun x17 =>
  if mIx K x17 4 v1 then
  (some (mup J15 x17 (v1).toNatClampNeg (0 : Int64))).bind fun J20 =>
  f_X4_settle_L6 K v0 R0 N (v1 + (1 : Int32)) I10 J20
  else none
  else none
  else none
  else none
def f_X4_settle (K : mK) (a0 : Nat) (I0 : mI) (J0 : mJ) (R0 : mR) : Option (mI × mJ) :=
  if K a0 = (0, 4) then
  (f_X4_appraise K a0 I0 J0 R0).bind fun z23 =>
  (f_X4_settle_L6 K a0 R0 8192 (0 : Int32) I0 z23).bind fun z25 =>
  (f_X4_settle_L41 K a0 R0 8192 (1 : Int32) z25.1 z25.2).bind fun z27 =>
  (f_X4_readOff K a0 z27.1 z27.2 R0).bind fun z29 =>
  some (z29, z27.2)
  else none
set_option maxHeartbeats 4000000 in
set_option maxRecDepth 100000 in
theorem r_X4_settle (l : Launch) (g : mG) (K : mK) (n : Nat) (hJ : mInj g n) (hO : mOk K n) (a0 : Nat) (I0 : mI) (J0 : mJ) (R0 : mR) (out : (mI × mJ)) (hf : f_X4_settle K a0 I0 J0 R0 = some out) : Met l yX4_settle (mWs yX4_settle cX4_settle 2 none) ({ frames := 2, cells := 0, slots := 0, locals := 49 }) (va_Pc [.ref (g.2.1 a0)] (mB g K n I0 J0 R0)) (mQ g K n none out.1 out.2 R0) 0 0 (mA g n) := by
  unfold f_X4_settle at hf
  refine mStart RX4 hJ hO (by decide) rfl (Nat.le_of_ble_eq_true rfl) ?_
  intro p e s m below meth c ls Qm hQm B hr hlk hw hl
  have hx := B.1.1
  have hb := B.1.2.1
  have hl : lv_has ls 2 [(0, .ref (g.2.1 a0))] := hl
  have L41 : ∀ (N : Nat) (v0 : Nat) (v1 : Int32) (I : mI) (J : mJ) (z : (mI × mJ)) (H : Heap) (locs : List Loc) (ls : Array Slot), f_X4_settle_L41 K v0 R0 N v1 I J = some z → mHp g K n s I J R0 H locs → lv_has ls 2 [(0, .ref (g.2.1 v0)), (1, .int v1)] → (∀ (H : Heap) (locs : List Loc) (ls : Array Slot), mHp g K n s z.1 z.2 R0 H locs → lv_has ls 2 [(0, .ref (g.2.1 v0))] → W p l e ({ frames := 2, cells := 0, slots := 0, locals := 49 } : Room) s m ([.ref (g.2.1 a0)] : List Value).toArray below meth c H locs 0 0 Qm (F0 m 58 ls [])) → W p l e ({ frames := 2, cells := 0, slots := 0, locals := 49 } : Room) s m ([.ref (g.2.1 a0)] : List Value).toArray below meth c H locs 0 0 Qm (F0 m 41 ls []) := by
    intro N
    induction N with
    | zero =>
      intro v0 v1 I J z H locs ls hf hw hl kx
      rw [f_X4_settle_L41] at hf
      cases hf
    | succ N ih =>
      intro v0 v1 I J z H locs ls hf hw hl kx
      rw [f_X4_settle_L41] at hf
      refine lv_iload_n hx hb dX4_settle_41 rfl (lv_at hl 1 rfl) ?_
      refine lv_bipush (v := (13 : Int32)) hx hb dX4_settle_42 (by decide) ?_
      refine lv_icmp_ge (tgt := 58) hx hb dX4_settle_44 (by decide) (fun c1 => ?_) (fun c1 => ?_)
      · replace hf := mT1 c1 hf
        obtain rfl := Option.some.inj hf
        exact kx _ _ _ hw (lv_sub hl [0] rfl)
      · replace hf := mF1 c1 hf
        refine lv_aload_n hx hb dX4_settle_47 rfl (lv_at hl 0 rfl) ?_
        refine lv_iload_n hx hb dX4_settle_48 rfl (lv_at hl 1 rfl) ?_
        obtain ⟨h2, hf⟩ := mChk hf
        obtain ⟨z3, e4, hf⟩ := mBind hf
        refine mcallV (rest := []) (ci := 4) B hw [.int v1] clX4_48 rfl h2 (r_X4_place l g K n hJ hO v0 v1 I J R0 z3 e4) ⟨rfl, rfl, Nat.le_of_ble_eq_true rfl, Nat.le_of_ble_eq_true rfl⟩ rfl hl.1 (Nat.le_of_ble_eq_true rfl) ⟨Nat.zero_le _, Nat.zero_le _⟩ dX4_settle_49 (fun H locs hw => ?_)
        refine W.eq (g2 := F0 m 52 ls []) rfl ?_
        refine lv_iinc (v := (v1 + (1 : Int32))) (lv' := [(1, .int (v1 + (1 : Int32))), (0, .ref (g.2.1 v0))]) hx hb dX4_settle_52 hl (k := 1) rfl rfl (by decide) rfl (fun ls hl => ?_)
        refine lv_goto (tgt := 41) hx hb dX4_settle_55 (by decide) ?_
        exact ih v0 (v1 + (1 : Int32)) z3.1 z3.2 z _ _ _ hf hw (lv_sub hl [1, 0] rfl) kx
  have L6 : ∀ (N : Nat) (v0 : Nat) (v1 : Int32) (I : mI) (J : mJ) (z : (mI × mJ)) (H : Heap) (locs : List Loc) (ls : Array Slot), f_X4_settle_L6 K v0 R0 N v1 I J = some z → mHp g K n s I J R0 H locs → lv_has ls 2 [(0, .ref (g.2.1 v0)), (1, .int v1)] → (∀ (H : Heap) (locs : List Loc) (ls : Array Slot), mHp g K n s z.1 z.2 R0 H locs → lv_has ls 2 [(0, .ref (g.2.1 v0))] → W p l e ({ frames := 2, cells := 0, slots := 0, locals := 49 } : Room) s m ([.ref (g.2.1 a0)] : List Value).toArray below meth c H locs 0 0 Qm (F0 m 39 ls [])) → W p l e ({ frames := 2, cells := 0, slots := 0, locals := 49 } : Room) s m ([.ref (g.2.1 a0)] : List Value).toArray below meth c H locs 0 0 Qm (F0 m 6 ls []) := by
    intro N
    induction N with
    | zero =>
      intro v0 v1 I J z H locs ls hf hw hl kx
      rw [f_X4_settle_L6] at hf
      cases hf
    | succ N ih =>
      intro v0 v1 I J z H locs ls hf hw hl kx
      rw [f_X4_settle_L6] at hf
      refine lv_iload_n hx hb dX4_settle_6 rfl (lv_at hl 1 rfl) ?_
      refine lv_bipush (v := (13 : Int32)) hx hb dX4_settle_7 (by decide) ?_
      refine lv_icmp_ge (tgt := 39) hx hb dX4_settle_9 (by decide) (fun c5 => ?_) (fun c5 => ?_)
      · replace hf := mT1 c5 hf
        obtain rfl := Option.some.inj hf
        exact kx _ _ _ hw (lv_sub hl [0] rfl)
      · replace hf := mF1 c5 hf
        refine lv_aload_n hx hb dX4_settle_12 rfl (lv_at hl 0 rfl) ?_
        obtain ⟨h6, hf⟩ := mChk hf
        obtain ⟨x7, e8, hf⟩ := mBind hf
        refine mgr B hw flX4_25 rfl h6 e8 dX4_settle_13 ?_
        refine lv_iload_n hx hb dX4_settle_16 rfl (lv_at hl 1 rfl) ?_
        refine lv_iconst (v := (0 : Int32)) hx hb dX4_settle_17 (by decide) ?_
        obtain ⟨h9, hf⟩ := mChk hf
        obtain ⟨I10, e11, hf⟩ := mLet hf
        refine mst1 B hw h9 dX4_settle_18 (fun H locs hw => ?_)
        rw [← e11] at hw
        refine lv_aload_n hx hb dX4_settle_19 rfl (lv_at hl 0 rfl) ?_
        obtain ⟨x12, e13, hf⟩ := mBind hf
        refine mgr B hw flX4_28 rfl h6 e13 dX4_settle_20 ?_
        refine lv_iload_n hx hb dX4_settle_23 rfl (lv_at hl 1 rfl) ?_
        refine lv_lconst (v := (0 : Int64)) hx hb dX4_settle_24 (by decide) ?_
        obtain ⟨h14, hf⟩ := mChk hf
        obtain ⟨J15, e16, hf⟩ := mLet hf
        refine mst4 B hw h14 dX4_settle_25 (fun H locs hw => ?_)
        rw [← e16] at hw
        refine lv_aload_n hx hb dX4_settle_26 rfl (lv_at hl 0 rfl) ?_
        obtain ⟨x17, e18, hf⟩ := mBind hf
        refine mgr B hw flX4_32 rfl h6 e18 dX4_settle_27 ?_
        refine lv_iload_n hx hb dX4_settle_30 rfl (lv_at hl 1 rfl) ?_
        refine lv_lconst (v := (0 : Int64)) hx hb dX4_settle_31 (by decide) ?_
        obtain ⟨h19, hf⟩ := mChk hf
        obtain ⟨J20, e21, hf⟩ := mLet hf
        refine mst4 B hw h19 dX4_settle_32 (fun H locs hw => ?_)
        rw [← e21] at hw
        refine lv_iinc (v := (v1 + (1 : Int32))) (lv' := [(1, .int (v1 + (1 : Int32))), (0, .ref (g.2.1 v0))]) hx hb dX4_settle_33 hl (k := 1) rfl rfl (by decide) rfl (fun ls hl => ?_)
        refine lv_goto (tgt := 6) hx hb dX4_settle_36 (by decide) ?_
        exact ih v0 (v1 + (1 : Int32)) I10 J20 z _ _ _ hf hw (lv_sub hl [1, 0] rfl) kx
  refine lv_aload_n hx hb dX4_settle_0 rfl (lv_at hl 0 rfl) ?_
  obtain ⟨h22, hf⟩ := mChk hf
  obtain ⟨z23, e24, hf⟩ := mBind hf
  refine mcallV (rest := []) (ci := 4) B hw [] clX4_45 rfl h22 (r_X4_appraise l g K n hJ hO a0 I0 J0 R0 z23 e24) ⟨rfl, rfl, Nat.le_of_ble_eq_true rfl, Nat.le_of_ble_eq_true rfl⟩ rfl hl.1 (Nat.le_of_ble_eq_true rfl) ⟨Nat.zero_le _, Nat.zero_le _⟩ dX4_settle_1 (fun H locs hw => ?_)
  refine W.eq (g2 := F0 m 4 ls []) rfl ?_
  refine lv_iconst (v := (0 : Int32)) hx hb dX4_settle_4 (by decide) ?_
  refine lv_istore_n (lv' := [(1, .int (0 : Int32)), (0, .ref (g.2.1 a0))]) hx hb dX4_settle_5 rfl hl (by decide) rfl (fun ls hl => ?_)
  obtain ⟨z25, e26, hf⟩ := mBind hf
  refine L6 8192 a0 (0 : Int32) I0 z23 z25 _ _ _ e26 hw (lv_sub hl [1, 0] rfl) (fun H locs ls hw hl => ?_)
  refine lv_iconst (v := (1 : Int32)) hx hb dX4_settle_39 (by decide) ?_
  refine lv_istore_n (lv' := [(1, .int (1 : Int32)), (0, .ref (g.2.1 a0))]) hx hb dX4_settle_40 rfl hl (by decide) rfl (fun ls hl => ?_)
  obtain ⟨z27, e28, hf⟩ := mBind hf
  refine L41 8192 a0 (1 : Int32) z25.1 z25.2 z27 _ _ _ e28 hw (lv_sub hl [1, 0] rfl) (fun H locs ls hw hl => ?_)
  refine lv_aload_n hx hb dX4_settle_58 rfl (lv_at hl 0 rfl) ?_
  obtain ⟨z29, e30, hf⟩ := mBind hf
  refine mcallV (rest := []) (ci := 4) B hw [] clX4_52 rfl h22 (r_X4_readOff l g K n hJ hO a0 z27.1 z27.2 R0 z29 e30) ⟨rfl, rfl, Nat.le_of_ble_eq_true rfl, Nat.le_of_ble_eq_true rfl⟩ rfl hl.1 (Nat.le_of_ble_eq_true rfl) ⟨Nat.zero_le _, Nat.zero_le _⟩ dX4_settle_59 (fun H locs hw => ?_)
  refine W.eq (g2 := F0 m 62 ls []) rfl ?_
  rw [hQm, ← Option.some.inj hf]
  exact mrv hx hb hr hlk hw dX4_settle_62
def f_X4_lossWithout (K : mK) (a0 : Nat) (a1 : Int32) (I0 : mI) (J0 : mJ) (R0 : mR) : Option (Int32 × mI × mJ) :=
  if K a0 = (0, 4) then
  (R0 a0 1).bind fun x2 =>
  if mIx K x2 1 a1 then
  if (I0 x2 (a1).toNatClampNeg) = (-1 : Int32) then
  some ((0 : Int32), I0, J0)
  else
  (R0 a0 0).bind fun x6 =>
  if mIx K x6 6 a1 then
  (R0 x6 (a1).toNatClampNeg).bind fun x9 =>
  if mIx K x9 1 (I0 x2 (a1).toNatClampNeg) then
  (some (mup I0 x9 ((I0 x2 (a1).toNatClampNeg)).toNatClampNeg (0 : Int32))).bind fun I12 =>
  (f_X4_settle K a0 I12 J0 R0).bind fun z14 =>
  some (((I0 a0 2) - (z14.1 a0 2)), z14.1, z14.2)
  else none
  else none
  else none
  else none
set_option maxHeartbeats 4000000 in
set_option maxRecDepth 100000 in
theorem r_X4_lossWithout (l : Launch) (g : mG) (K : mK) (n : Nat) (hJ : mInj g n) (hO : mOk K n) (a0 : Nat) (a1 : Int32) (I0 : mI) (J0 : mJ) (R0 : mR) (out : (Int32 × mI × mJ)) (hf : f_X4_lossWithout K a0 a1 I0 J0 R0 = some out) : Met l yX4_lossWithout (mWs yX4_lossWithout cX4_lossWithout 3 (some .int)) ({ frames := 3, cells := 0, slots := 0, locals := 70 }) (va_Pc [.ref (g.2.1 a0), .int a1] (mB g K n I0 J0 R0)) (mQ g K n (some (.int out.1)) out.2.1 out.2.2 R0) 0 0 (mA g n) := by
  unfold f_X4_lossWithout at hf
  refine mStart RX4 hJ hO (by decide) rfl (Nat.le_of_ble_eq_true rfl) ?_
  intro p e s m below meth c ls Qm hQm B hr hlk hw hl
  have hx := B.1.1
  have hb := B.1.2.1
  have hl : lv_has ls 3 [(0, .ref (g.2.1 a0)), (1, .int a1)] := hl
  refine lv_aload_n hx hb dX4_lossWithout_0 rfl (lv_at hl 0 rfl) ?_
  obtain ⟨h1, hf⟩ := mChk hf
  obtain ⟨x2, e3, hf⟩ := mBind hf
  refine mgr B hw flX4_16 rfl h1 e3 dX4_lossWithout_1 ?_
  refine lv_iload_n hx hb dX4_lossWithout_4 rfl (lv_at hl 1 rfl) ?_
  obtain ⟨h4, hf⟩ := mChk hf
  refine mld1 B hw h4 dX4_lossWithout_5 ?_
  refine lv_iconst (v := (-1 : Int32)) hx hb dX4_lossWithout_6 (by decide) ?_
  refine lv_icmp_ne (tgt := 12) hx hb dX4_lossWithout_7 (by decide) (fun c5 => ?_) (fun c5 => ?_)
  · replace hf := mF1 c5 hf
    refine lv_aload_n hx hb dX4_lossWithout_12 rfl (lv_at hl 0 rfl) ?_
    refine mgi B hw flX4_55 rfl h1 dX4_lossWithout_13 ?_
    refine lv_istore_n (lv' := [(2, .int (I0 a0 2)), (0, .ref (g.2.1 a0)), (1, .int a1)]) hx hb dX4_lossWithout_16 rfl hl (by decide) rfl (fun ls hl => ?_)
    refine lv_aload_n hx hb dX4_lossWithout_17 rfl (lv_at hl 1 rfl) ?_
    obtain ⟨x6, e7, hf⟩ := mBind hf
    refine mgr B hw flX4_11 rfl h1 e7 dX4_lossWithout_18 ?_
    refine lv_iload_n hx hb dX4_lossWithout_21 rfl (lv_at hl 2 rfl) ?_
    obtain ⟨h8, hf⟩ := mChk hf
    obtain ⟨x9, e10, hf⟩ := mBind hf
    refine mld6 B hw h8 e10 dX4_lossWithout_22 ?_
    refine lv_aload_n hx hb dX4_lossWithout_23 rfl (lv_at hl 1 rfl) ?_
    refine mgr B hw flX4_16 rfl h1 e3 dX4_lossWithout_24 ?_
    refine lv_iload_n hx hb dX4_lossWithout_27 rfl (lv_at hl 2 rfl) ?_
    refine mld1 B hw h4 dX4_lossWithout_28 ?_
    refine lv_iconst (v := (0 : Int32)) hx hb dX4_lossWithout_29 (by decide) ?_
    obtain ⟨h11, hf⟩ := mChk hf
    obtain ⟨I12, e13, hf⟩ := mLet hf
    refine mst1 B hw h11 dX4_lossWithout_30 (fun H locs hw => ?_)
    rw [← e13] at hw
    refine lv_aload_n hx hb dX4_lossWithout_31 rfl (lv_at hl 1 rfl) ?_
    obtain ⟨z14, e15, hf⟩ := mBind hf
    refine mcallV (rest := []) (ci := 4) B hw [] clX4_59 rfl h1 (r_X4_settle l g K n hJ hO a0 I12 J0 R0 z14 e15) ⟨rfl, rfl, Nat.le_of_ble_eq_true rfl, Nat.le_of_ble_eq_true rfl⟩ rfl hl.1 (Nat.le_of_ble_eq_true rfl) ⟨Nat.zero_le _, Nat.zero_le _⟩ dX4_lossWithout_32 (fun H locs hw => ?_)
    refine W.eq (g2 := F0 m 35 ls []) rfl ?_
    refine lv_iload_n hx hb dX4_lossWithout_35 rfl (lv_at hl 0 rfl) ?_
    refine lv_aload_n hx hb dX4_lossWithout_36 rfl (lv_at hl 1 rfl) ?_
    refine mgi B hw flX4_55 rfl h1 dX4_lossWithout_37 ?_
    refine lv_isub hx hb dX4_lossWithout_40 ?_
    rw [hQm, ← Option.some.inj hf]
    exact mri hx hb hr hlk hw dX4_lossWithout_41
  · replace hf := mT1 c5 hf
    refine lv_iconst (v := (0 : Int32)) hx hb dX4_lossWithout_10 (by decide) ?_
    rw [hQm, ← Option.some.inj hf]
    exact mri hx hb hr hlk hw dX4_lossWithout_11
def f_X5_skipBlanks_L0 (K : mK) (v0 : Nat) (J0 : mJ) (R0 : mR) : Nat → mI → Option mI
  | 0, _ => none
  | N + 1, I =>
  if K v0 = (0, 5) then
  if (I v0 1) ≤ (I v0 2) then
  some I
  else
  (R0 v0 0).bind fun x3 =>
  if mIx K x3 2 (I v0 2) then
  if (I x3 ((I v0 2)).toNatClampNeg) = (32 : Int32) then
  (some (mup I v0 2 ((I v0 2) + (1 : Int32)))).bind fun I7 =>
  f_X5_skipBlanks_L0 K v0 J0 R0 N I7
  else
  if (I x3 ((I v0 2)).toNatClampNeg) = (10 : Int32) then
  (some (mup I v0 2 ((I v0 2) + (1 : Int32)))).bind fun I10 =>
  f_X5_skipBlanks_L0 K v0 J0 R0 N I10
  else
  some I
  else none
  else none
def f_X5_skipBlanks (K : mK) (a0 : Nat) (I0 : mI) (J0 : mJ) (R0 : mR) : Option mI :=
  (f_X5_skipBlanks_L0 K a0 J0 R0 8192 I0).bind fun z12 =>
  some z12
set_option maxHeartbeats 4000000 in
set_option maxRecDepth 100000 in
theorem r_X5_skipBlanks (l : Launch) (g : mG) (K : mK) (n : Nat) (hJ : mInj g n) (hO : mOk K n) (a0 : Nat) (I0 : mI) (J0 : mJ) (R0 : mR) (out : mI) (hf : f_X5_skipBlanks K a0 I0 J0 R0 = some out) : Met l yX5_skipBlanks (mWs yX5_skipBlanks cX5_skipBlanks 1 none) ({ frames := 0, cells := 0, slots := 0, locals := 0 }) (va_Pc [.ref (g.2.1 a0)] (mB g K n I0 J0 R0)) (mQ g K n none out J0 R0) 0 0 (mA g n) := by
  unfold f_X5_skipBlanks at hf
  refine mStart RX5 hJ hO (by decide) rfl (Nat.le_of_ble_eq_true rfl) ?_
  intro p e s m below meth c ls Qm hQm B hr hlk hw hl
  have hx := B.1.1
  have hb := B.1.2.1
  have hl : lv_has ls 1 [(0, .ref (g.2.1 a0))] := hl
  have L0 : ∀ (N : Nat) (v0 : Nat) (I : mI) (z : mI) (H : Heap) (locs : List Loc) (ls : Array Slot), f_X5_skipBlanks_L0 K v0 J0 R0 N I = some z → mHp g K n s I J0 R0 H locs → lv_has ls 1 [(0, .ref (g.2.1 v0))] → (∀ (H : Heap) (locs : List Loc) (ls : Array Slot), mHp g K n s z J0 R0 H locs → lv_has ls 1 [] → W p l e ({ frames := 0, cells := 0, slots := 0, locals := 0 } : Room) s m ([.ref (g.2.1 a0)] : List Value).toArray below meth c H locs 0 0 Qm (F0 m 52 ls [])) → W p l e ({ frames := 0, cells := 0, slots := 0, locals := 0 } : Room) s m ([.ref (g.2.1 a0)] : List Value).toArray below meth c H locs 0 0 Qm (F0 m 0 ls []) := by
    intro N
    induction N with
    | zero =>
      intro v0 I z H locs ls hf hw hl kx
      rw [f_X5_skipBlanks_L0] at hf
      cases hf
    | succ N ih =>
      intro v0 I z H locs ls hf hw hl kx
      rw [f_X5_skipBlanks_L0] at hf
      refine lv_aload_n hx hb dX5_skipBlanks_0 rfl (lv_at hl 0 rfl) ?_
      obtain ⟨h1, hf⟩ := mChk hf
      refine mgi B hw flX5_28 rfl h1 dX5_skipBlanks_1 ?_
      refine lv_aload_n hx hb dX5_skipBlanks_4 rfl (lv_at hl 0 rfl) ?_
      refine mgi B hw flX5_25 rfl h1 dX5_skipBlanks_5 ?_
      refine lv_icmp_ge (tgt := 52) hx hb dX5_skipBlanks_8 (by decide) (fun c2 => ?_) (fun c2 => ?_)
      · replace hf := mT1 c2 hf
        obtain rfl := Option.some.inj hf
        exact kx _ _ _ hw (lv_sub hl [] rfl)
      · replace hf := mF1 c2 hf
        refine lv_aload_n hx hb dX5_skipBlanks_11 rfl (lv_at hl 0 rfl) ?_
        obtain ⟨x3, e4, hf⟩ := mBind hf
        refine mgr B hw flX5_9 rfl h1 e4 dX5_skipBlanks_12 ?_
        refine lv_aload_n hx hb dX5_skipBlanks_15 rfl (lv_at hl 0 rfl) ?_
        refine mgi B hw flX5_28 rfl h1 dX5_skipBlanks_16 ?_
        obtain ⟨h5, hf⟩ := mChk hf
        refine mld2 B hw h5 dX5_skipBlanks_19 ?_
        refine lv_bipush (v := (32 : Int32)) hx hb dX5_skipBlanks_20 (by decide) ?_
        refine lv_icmp_eq (tgt := 39) hx hb dX5_skipBlanks_22 (by decide) (fun c6 => ?_) (fun c6 => ?_)
        · replace hf := mT1 c6 hf
          refine lv_aload_n hx hb dX5_skipBlanks_39 rfl (lv_at hl 0 rfl) ?_
          refine lv_dup hx hb dX5_skipBlanks_40 rfl ?_
          refine mgi B hw flX5_28 rfl h1 dX5_skipBlanks_41 ?_
          refine lv_iconst (v := (1 : Int32)) hx hb dX5_skipBlanks_44 (by decide) ?_
          refine lv_iadd hx hb dX5_skipBlanks_45 ?_
          obtain ⟨I7, e8, hf⟩ := mLet hf
          refine mpi B hw puX5_28 rfl h1 dX5_skipBlanks_46 (fun H locs hw => ?_)
          rw [← e8] at hw
          refine lv_goto (tgt := 0) hx hb dX5_skipBlanks_49 (by decide) ?_
          exact ih v0 I7 z _ _ _ hf hw (lv_sub hl [0] rfl) kx
        · replace hf := mF1 c6 hf
          refine lv_aload_n hx hb dX5_skipBlanks_25 rfl (lv_at hl 0 rfl) ?_
          refine mgr B hw flX5_9 rfl h1 e4 dX5_skipBlanks_26 ?_
          refine lv_aload_n hx hb dX5_skipBlanks_29 rfl (lv_at hl 0 rfl) ?_
          refine mgi B hw flX5_28 rfl h1 dX5_skipBlanks_30 ?_
          refine mld2 B hw h5 dX5_skipBlanks_33 ?_
          refine lv_bipush (v := (10 : Int32)) hx hb dX5_skipBlanks_34 (by decide) ?_
          refine lv_icmp_ne (tgt := 52) hx hb dX5_skipBlanks_36 (by decide) (fun c9 => ?_) (fun c9 => ?_)
          · replace hf := mF1 c9 hf
            obtain rfl := Option.some.inj hf
            exact kx _ _ _ hw (lv_sub hl [] rfl)
          · replace hf := mT1 c9 hf
            refine lv_aload_n hx hb dX5_skipBlanks_39 rfl (lv_at hl 0 rfl) ?_
            refine lv_dup hx hb dX5_skipBlanks_40 rfl ?_
            refine mgi B hw flX5_28 rfl h1 dX5_skipBlanks_41 ?_
            refine lv_iconst (v := (1 : Int32)) hx hb dX5_skipBlanks_44 (by decide) ?_
            refine lv_iadd hx hb dX5_skipBlanks_45 ?_
            obtain ⟨I10, e11, hf⟩ := mLet hf
            refine mpi B hw puX5_28 rfl h1 dX5_skipBlanks_46 (fun H locs hw => ?_)
            rw [← e11] at hw
            refine lv_goto (tgt := 0) hx hb dX5_skipBlanks_49 (by decide) ?_
            exact ih v0 I10 z _ _ _ hf hw (lv_sub hl [0] rfl) kx
  obtain ⟨z12, e13, hf⟩ := mBind hf
  refine L0 8192 a0 I0 z12 _ _ _ e13 hw (lv_sub hl [0] rfl) (fun H locs ls hw hl => ?_)
  rw [hQm, ← Option.some.inj hf]
  exact mrv hx hb hr hlk hw dX5_skipBlanks_52
def f_X5_endOfRun_L5 (K : mK) (v0 : Nat) (v1 : Int32) (v2 : Int32) (I0 : mI) (J0 : mJ) (R0 : mR) : Nat → Int32 → Option Int32
  | 0, _ => none
  | N + 1, v3 =>
  if K v0 = (0, 5) then
  if (I0 v0 1) ≤ v3 then
  some v3
  else
  (R0 v0 0).bind fun x3 =>
  if mIx K x3 2 v3 then
  (f_X8_within K (I0 x3 (v3).toNatClampNeg) v1 v2 I0 J0 R0).bind fun z6 =>
  if (mb z6) = 0 then
  some v3
  else
  f_X5_endOfRun_L5 K v0 v1 v2 I0 J0 R0 N (v3 + (1 : Int32))
  else none
  else none
def f_X5_endOfRun (K : mK) (a0 : Nat) (a1 : Int32) (a2 : Int32) (I0 : mI) (J0 : mJ) (R0 : mR) : Option Int32 :=
  if K a0 = (0, 5) then
  (f_X5_endOfRun_L5 K a0 a1 a2 I0 J0 R0 8192 (I0 a0 2)).bind fun z10 =>
  some z10
  else none
set_option maxHeartbeats 4000000 in
set_option maxRecDepth 100000 in
theorem r_X5_endOfRun (l : Launch) (g : mG) (K : mK) (n : Nat) (hJ : mInj g n) (hO : mOk K n) (a0 : Nat) (a1 : Int32) (a2 : Int32) (I0 : mI) (J0 : mJ) (R0 : mR) (out : Int32) (hf : f_X5_endOfRun K a0 a1 a2 I0 J0 R0 = some out) : Met l yX5_endOfRun (mWs yX5_endOfRun cX5_endOfRun 4 (some .int)) ({ frames := 1, cells := 0, slots := 0, locals := 22 }) (va_Pc [.ref (g.2.1 a0), .int a1, .int a2] (mB g K n I0 J0 R0)) (mQ g K n (some (.int out)) I0 J0 R0) 0 0 (mA g n) := by
  unfold f_X5_endOfRun at hf
  refine mStart RX5 hJ hO (by decide) rfl (Nat.le_of_ble_eq_true rfl) ?_
  intro p e s m below meth c ls Qm hQm B hr hlk hw hl
  have hx := B.1.1
  have hb := B.1.2.1
  have hl : lv_has ls 4 [(0, .ref (g.2.1 a0)), (1, .int a1), (2, .int a2)] := hl
  have L5 : ∀ (N : Nat) (v0 : Nat) (v1 : Int32) (v2 : Int32) (v3 : Int32) (z : Int32) (H : Heap) (locs : List Loc) (ls : Array Slot), f_X5_endOfRun_L5 K v0 v1 v2 I0 J0 R0 N v3 = some z → mHp g K n s I0 J0 R0 H locs → lv_has ls 4 [(0, .ref (g.2.1 v0)), (1, .int v1), (2, .int v2), (3, .int v3)] → (∀ (H : Heap) (locs : List Loc) (ls : Array Slot), mHp g K n s I0 J0 R0 H locs → lv_has ls 4 [(3, .int z)] → W p l e ({ frames := 1, cells := 0, slots := 0, locals := 22 } : Room) s m ([.ref (g.2.1 a0), .int a1, .int a2] : List Value).toArray below meth c H locs 0 0 Qm (F0 m 33 ls [])) → W p l e ({ frames := 1, cells := 0, slots := 0, locals := 22 } : Room) s m ([.ref (g.2.1 a0), .int a1, .int a2] : List Value).toArray below meth c H locs 0 0 Qm (F0 m 5 ls []) := by
    intro N
    induction N with
    | zero =>
      intro v0 v1 v2 v3  z H locs ls hf hw hl kx
      rw [f_X5_endOfRun_L5] at hf
      cases hf
    | succ N ih =>
      intro v0 v1 v2 v3  z H locs ls hf hw hl kx
      rw [f_X5_endOfRun_L5] at hf
      refine lv_iload_n hx hb dX5_endOfRun_5 rfl (lv_at hl 3 rfl) ?_
      refine lv_aload_n hx hb dX5_endOfRun_6 rfl (lv_at hl 0 rfl) ?_
      obtain ⟨h1, hf⟩ := mChk hf
      refine mgi B hw flX5_25 rfl h1 dX5_endOfRun_7 ?_
      refine lv_icmp_ge (tgt := 33) hx hb dX5_endOfRun_10 (by decide) (fun c2 => ?_) (fun c2 => ?_)
      · replace hf := mT1 c2 hf
        obtain rfl := Option.some.inj hf
        exact kx _ _ _ hw (lv_sub hl [3] rfl)
      · replace hf := mF1 c2 hf
        refine lv_aload_n hx hb dX5_endOfRun_13 rfl (lv_at hl 0 rfl) ?_
        obtain ⟨x3, e4, hf⟩ := mBind hf
        refine mgr B hw flX5_9 rfl h1 e4 dX5_endOfRun_14 ?_
        refine lv_iload_n hx hb dX5_endOfRun_17 rfl (lv_at hl 3 rfl) ?_
        obtain ⟨h5, hf⟩ := mChk hf
        refine mld2 B hw h5 dX5_endOfRun_18 ?_
        refine lv_iload_n hx hb dX5_endOfRun_19 rfl (lv_at hl 1 rfl) ?_
        refine lv_iload_n hx hb dX5_endOfRun_20 rfl (lv_at hl 2 rfl) ?_
        obtain ⟨z6, e7, hf⟩ := mBind hf
        refine mcallN (rest := []) B hw [.int (I0 x3 (v3).toNatClampNeg), .int v1, .int v2] clX5_105 (r_X8_within l g K n hJ hO (I0 x3 (v3).toNatClampNeg) v1 v2 I0 J0 R0 z6 e7) ⟨rfl, rfl, Nat.le_of_ble_eq_true rfl, Nat.le_of_ble_eq_true rfl⟩ rfl hl.1 (Nat.le_of_ble_eq_true rfl) ⟨Nat.zero_le _, Nat.zero_le _⟩ dX5_endOfRun_21 (fun H locs hw => ?_)
        refine W.eq (g2 := F0 m 24 ls [.int (mb z6)]) rfl ?_
        refine lv_if_eq (tgt := 33) hx hb dX5_endOfRun_24 (by decide) (fun c8 => ?_) (fun c8 => ?_)
        · replace hf := mT1 c8 hf
          obtain rfl := Option.some.inj hf
          exact kx _ _ _ hw (lv_sub hl [3] rfl)
        · replace hf := mF1 c8 hf
          refine lv_iinc (v := (v3 + (1 : Int32))) (lv' := [(3, .int (v3 + (1 : Int32))), (0, .ref (g.2.1 v0)), (1, .int v1), (2, .int v2)]) hx hb dX5_endOfRun_27 hl (k := 3) rfl rfl (by decide) rfl (fun ls hl => ?_)
          refine lv_goto (tgt := 5) hx hb dX5_endOfRun_30 (by decide) ?_
          exact ih v0 v1 v2 (v3 + (1 : Int32)) z _ _ _ hf hw (lv_sub hl [1, 2, 3, 0] rfl) kx
  refine lv_aload_n hx hb dX5_endOfRun_0 rfl (lv_at hl 0 rfl) ?_
  obtain ⟨h9, hf⟩ := mChk hf
  refine mgi B hw flX5_28 rfl h9 dX5_endOfRun_1 ?_
  refine lv_istore_n (lv' := [(3, .int (I0 a0 2)), (0, .ref (g.2.1 a0)), (1, .int a1), (2, .int a2)]) hx hb dX5_endOfRun_4 rfl hl (by decide) rfl (fun ls hl => ?_)
  obtain ⟨z10, e11, hf⟩ := mBind hf
  refine L5 8192 a0 a1 a2 (I0 a0 2) z10 _ _ _ e11 hw (lv_sub hl [1, 2, 3, 0] rfl) (fun H locs ls hw hl => ?_)
  refine lv_iload_n hx hb dX5_endOfRun_33 rfl (lv_at hl 0 rfl) ?_
  rw [hQm, ← Option.some.inj hf]
  exact mri hx hb hr hlk hw dX5_endOfRun_34
def f_X5_takeWord_L30 (K : mK) (v0 : Nat) (v1 : Nat) (v2 : Int32) (I : mI) (J0 : mJ) (R0 : mR) : Nat → Int32 → Option ((Bool × mI) ⊕ Unit)
  | 0, _ => none
  | N + 1, v3 =>
  if v1 < 8 then
  if (nI (mSl.getD v1 0)) ≤ v3 then
  some (Sum.inr ())
  else
  if K v0 = (0, 5) then
  (R0 v0 0).bind fun x4 =>
  if mIx K x4 2 ((I v0 2) + v3) then
  if mSx v1 v3 then
  if (I x4 (((I v0 2) + v3)).toNatClampNeg) = (mSc v1 v3) then
  f_X5_takeWord_L30 K v0 v1 v2 I J0 R0 N (v3 + (1 : Int32))
  else
  some (Sum.inl (false, I))
  else none
  else none
  else none
  else none
def f_X5_takeWord (K : mK) (a0 : Nat) (a1 : Nat) (I0 : mI) (J0 : mJ) (R0 : mR) : Option (Bool × mI) :=
  if K a0 = (0, 5) then
  (f_X5_skipBlanks K a0 I0 J0 R0).bind fun z10 =>
  (f_X5_endOfRun K a0 (97 : Int32) (122 : Int32) z10 J0 R0).bind fun z12 =>
  if a1 < 8 then
  if (z12 - (z10 a0 2)) = (nI (mSl.getD a1 0)) then
  (f_X5_takeWord_L30 K a0 a1 z12 z10 J0 R0 8192 (0 : Int32)).bind fun z16 => Sum.elim (fun o => some o) (fun w18 =>
  (some (mup z10 a0 2 z12)).bind fun I19 =>
  some (true, I19)) z16
  else
  some (false, z10)
  else none
  else none
set_option maxHeartbeats 4000000 in
set_option maxRecDepth 100000 in
theorem r_X5_takeWord (l : Launch) (g : mG) (K : mK) (n : Nat) (hJ : mInj g n) (hO : mOk K n) (a0 : Nat) (a1 : Nat) (I0 : mI) (J0 : mJ) (R0 : mR) (out : (Bool × mI)) (hf : f_X5_takeWord K a0 a1 I0 J0 R0 = some out) : Met l yX5_takeWord (mWs yX5_takeWord cX5_takeWord 4 (some .boolean)) ({ frames := 4, cells := 0, slots := 0, locals := 110 }) (va_Pc [.ref (g.2.1 a0), .ref (g.2.2.2.1 a1)] (mB g K n I0 J0 R0)) (mQ g K n (some (.int (mb out.1))) out.2 J0 R0) 0 0 (mA g n) := by
  unfold f_X5_takeWord at hf
  refine mStart RX5 hJ hO (by decide) rfl (Nat.le_of_ble_eq_true rfl) ?_
  intro p e s m below meth c ls Qm hQm B hr hlk hw hl
  have hx := B.1.1
  have hb := B.1.2.1
  have hl : lv_has ls 4 [(0, .ref (g.2.1 a0)), (1, .ref (g.2.2.2.1 a1))] := hl
  have L30 : ∀ (N : Nat) (v0 : Nat) (v1 : Nat) (v2 : Int32) (v3 : Int32) (I : mI) (z : ((Bool × mI) ⊕ Unit)) (H : Heap) (locs : List Loc) (ls : Array Slot), f_X5_takeWord_L30 K v0 v1 v2 I J0 R0 N v3 = some z → mHp g K n s I J0 R0 H locs → lv_has ls 4 [(0, .ref (g.2.1 v0)), (1, .ref (g.2.2.2.1 v1)), (2, .int v2), (3, .int v3)] → (∀ w, z = Sum.inr w → (∀ (H : Heap) (locs : List Loc) (ls : Array Slot), mHp g K n s I J0 R0 H locs → lv_has ls 4 [(0, .ref (g.2.1 v0)), (2, .int v2)] → W p l e ({ frames := 4, cells := 0, slots := 0, locals := 110 } : Room) s m ([.ref (g.2.1 a0), .ref (g.2.2.2.1 a1)] : List Value).toArray below meth c H locs 0 0 Qm (F0 m 65 ls []))) → (∀ o, z = Sum.inl o → o = out) → W p l e ({ frames := 4, cells := 0, slots := 0, locals := 110 } : Room) s m ([.ref (g.2.1 a0), .ref (g.2.2.2.1 a1)] : List Value).toArray below meth c H locs 0 0 Qm (F0 m 30 ls []) := by
    intro N
    induction N with
    | zero =>
      intro v0 v1 v2 v3 I z H locs ls hf hw hl kx ko
      rw [f_X5_takeWord_L30] at hf
      cases hf
    | succ N ih =>
      intro v0 v1 v2 v3 I z H locs ls hf hw hl kx ko
      rw [f_X5_takeWord_L30] at hf
      refine lv_iload_n hx hb dX5_takeWord_30 rfl (lv_at hl 3 rfl) ?_
      refine lv_aload_n hx hb dX5_takeWord_31 rfl (lv_at hl 1 rfl) ?_
      obtain ⟨h1, hf⟩ := mChk hf
      refine mcallT (rest := [.int v3]) B hw [] clX5_96 h1 (rJ_length l g K n hJ hO v1 h1 I J0 R0) ⟨rfl, rfl, Nat.le_of_ble_eq_true rfl, Nat.le_of_ble_eq_true rfl⟩ rfl hl.1 (Nat.le_of_ble_eq_true rfl) ⟨Nat.zero_le _, Nat.zero_le _⟩ dX5_takeWord_32 (fun H locs hw => ?_)
      refine W.eq (g2 := F0 m 35 ls [.int (nI (mSl.getD v1 0)), .int v3]) rfl ?_
      refine lv_icmp_ge (tgt := 65) hx hb dX5_takeWord_35 (by decide) (fun c2 => ?_) (fun c2 => ?_)
      · replace hf := mT1 c2 hf
        obtain rfl := Option.some.inj hf
        exact kx _ rfl _ _ _ hw (lv_sub hl [0, 2] rfl)
      · replace hf := mF1 c2 hf
        refine lv_aload_n hx hb dX5_takeWord_38 rfl (lv_at hl 0 rfl) ?_
        obtain ⟨h3, hf⟩ := mChk hf
        obtain ⟨x4, e5, hf⟩ := mBind hf
        refine mgr B hw flX5_9 rfl h3 e5 dX5_takeWord_39 ?_
        refine lv_aload_n hx hb dX5_takeWord_42 rfl (lv_at hl 0 rfl) ?_
        refine mgi B hw flX5_28 rfl h3 dX5_takeWord_43 ?_
        refine lv_iload_n hx hb dX5_takeWord_46 rfl (lv_at hl 3 rfl) ?_
        refine lv_iadd hx hb dX5_takeWord_47 ?_
        obtain ⟨h6, hf⟩ := mChk hf
        refine mld2 B hw h6 dX5_takeWord_48 ?_
        refine lv_aload_n hx hb dX5_takeWord_49 rfl (lv_at hl 1 rfl) ?_
        refine lv_iload_n hx hb dX5_takeWord_50 rfl (lv_at hl 3 rfl) ?_
        obtain ⟨h7, hf⟩ := mChk hf
        refine mcallT (rest := [.int (I x4 (((I v0 2) + v3)).toNatClampNeg)]) B hw [.int v3] clX5_101 h7.1 (rJ_charAt l g K n hJ hO v1 v3 h7 I J0 R0) ⟨rfl, rfl, Nat.le_of_ble_eq_true rfl, Nat.le_of_ble_eq_true rfl⟩ rfl hl.1 (Nat.le_of_ble_eq_true rfl) ⟨Nat.zero_le _, Nat.zero_le _⟩ dX5_takeWord_51 (fun H locs hw => ?_)
        refine W.eq (g2 := F0 m 54 ls [.int (mSc v1 v3), .int (I x4 (((I v0 2) + v3)).toNatClampNeg)]) rfl ?_
        refine lv_icmp_eq (tgt := 59) hx hb dX5_takeWord_54 (by decide) (fun c8 => ?_) (fun c8 => ?_)
        · replace hf := mT1 c8 hf
          refine lv_iinc (v := (v3 + (1 : Int32))) (lv' := [(3, .int (v3 + (1 : Int32))), (0, .ref (g.2.1 v0)), (1, .ref (g.2.2.2.1 v1)), (2, .int v2)]) hx hb dX5_takeWord_59 hl (k := 3) rfl rfl (by decide) rfl (fun ls hl => ?_)
          refine lv_goto (tgt := 30) hx hb dX5_takeWord_62 (by decide) ?_
          exact ih v0 v1 v2 (v3 + (1 : Int32)) I z _ _ _ hf hw (lv_sub hl [1, 2, 3, 0] rfl) kx ko
        · replace hf := mF1 c8 hf
          refine lv_iconst (v := (0 : Int32)) hx hb dX5_takeWord_57 (by decide) ?_
          rw [hQm, ← ko _ (Option.some.inj hf).symm]
          exact mrz (v := false) hx hb hr hlk hw dX5_takeWord_58
  refine lv_aload_n hx hb dX5_takeWord_0 rfl (lv_at hl 0 rfl) ?_
  obtain ⟨h9, hf⟩ := mChk hf
  obtain ⟨z10, e11, hf⟩ := mBind hf
  refine mcallV (rest := []) (ci := 5) B hw [] clX5_36 rfl h9 (r_X5_skipBlanks l g K n hJ hO a0 I0 J0 R0 z10 e11) ⟨rfl, rfl, Nat.le_of_ble_eq_true rfl, Nat.le_of_ble_eq_true rfl⟩ rfl hl.1 (Nat.le_of_ble_eq_true rfl) ⟨Nat.zero_le _, Nat.zero_le _⟩ dX5_takeWord_1 (fun H locs hw => ?_)
  refine W.eq (g2 := F0 m 4 ls []) rfl ?_
  refine lv_aload_n hx hb dX5_takeWord_4 rfl (lv_at hl 0 rfl) ?_
  refine lv_bipush (v := (97 : Int32)) hx hb dX5_takeWord_5 (by decide) ?_
  refine lv_bipush (v := (122 : Int32)) hx hb dX5_takeWord_7 (by decide) ?_
  obtain ⟨z12, e13, hf⟩ := mBind hf
  refine mcallV (rest := []) (ci := 5) B hw [.int (97 : Int32), .int (122 : Int32)] clX5_92 rfl h9 (r_X5_endOfRun l g K n hJ hO a0 (97 : Int32) (122 : Int32) z10 J0 R0 z12 e13) ⟨rfl, rfl, Nat.le_of_ble_eq_true rfl, Nat.le_of_ble_eq_true rfl⟩ rfl hl.1 (Nat.le_of_ble_eq_true rfl) ⟨Nat.zero_le _, Nat.zero_le _⟩ dX5_takeWord_9 (fun H locs hw => ?_)
  refine W.eq (g2 := F0 m 12 ls [.int z12]) rfl ?_
  refine lv_istore_n (lv' := [(2, .int z12), (0, .ref (g.2.1 a0)), (1, .ref (g.2.2.2.1 a1))]) hx hb dX5_takeWord_12 rfl hl (by decide) rfl (fun ls hl => ?_)
  refine lv_iload_n hx hb dX5_takeWord_13 rfl (lv_at hl 0 rfl) ?_
  refine lv_aload_n hx hb dX5_takeWord_14 rfl (lv_at hl 1 rfl) ?_
  refine mgi B hw flX5_28 rfl h9 dX5_takeWord_15 ?_
  refine lv_isub hx hb dX5_takeWord_18 ?_
  refine lv_aload_n hx hb dX5_takeWord_19 rfl (lv_at hl 2 rfl) ?_
  obtain ⟨h14, hf⟩ := mChk hf
  refine mcallT (rest := [.int (z12 - (z10 a0 2))]) B hw [] clX5_96 h14 (rJ_length l g K n hJ hO a1 h14 z10 J0 R0) ⟨rfl, rfl, Nat.le_of_ble_eq_true rfl, Nat.le_of_ble_eq_true rfl⟩ rfl hl.1 (Nat.le_of_ble_eq_true rfl) ⟨Nat.zero_le _, Nat.zero_le _⟩ dX5_takeWord_20 (fun H locs hw => ?_)
  refine W.eq (g2 := F0 m 23 ls [.int (nI (mSl.getD a1 0)), .int (z12 - (z10 a0 2))]) rfl ?_
  refine lv_icmp_eq (tgt := 28) hx hb dX5_takeWord_23 (by decide) (fun c15 => ?_) (fun c15 => ?_)
  · replace hf := mT1 c15 hf
    refine lv_iconst (v := (0 : Int32)) hx hb dX5_takeWord_28 (by decide) ?_
    refine lv_istore_n (lv' := [(3, .int (0 : Int32)), (2, .int z12), (0, .ref (g.2.1 a0)), (1, .ref (g.2.2.2.1 a1))]) hx hb dX5_takeWord_29 rfl hl (by decide) rfl (fun ls hl => ?_)
    obtain ⟨z16, e17, hf⟩ := mBind hf
    refine L30 8192 a0 a1 z12 (0 : Int32) z10 z16 _ _ _ e17 hw (lv_sub hl [2, 3, 1, 0] rfl) (fun w18 hw9 H locs ls hw hl => ?_) (fun o ho => ?_)
    · subst hw9
      replace hf := mInr hf
      refine lv_aload_n hx hb dX5_takeWord_65 rfl (lv_at hl 0 rfl) ?_
      refine lv_iload_n hx hb dX5_takeWord_66 rfl (lv_at hl 1 rfl) ?_
      obtain ⟨I19, e20, hf⟩ := mLet hf
      refine mpi B hw puX5_28 rfl h9 dX5_takeWord_67 (fun H locs hw => ?_)
      rw [← e20] at hw
      refine lv_iconst (v := (1 : Int32)) hx hb dX5_takeWord_70 (by decide) ?_
      rw [hQm, ← Option.some.inj hf]
      exact mrz (v := true) hx hb hr hlk hw dX5_takeWord_71
    · subst ho
      exact Option.some.inj (mInl hf)
  · replace hf := mF1 c15 hf
    refine lv_iconst (v := (0 : Int32)) hx hb dX5_takeWord_26 (by decide) ?_
    rw [hQm, ← Option.some.inj hf]
    exact mrz (v := false) hx hb hr hlk hw dX5_takeWord_27
def f_X5_takeNumber_L42 (K : mK) (v0 : Nat) (v1 : Int32) (v2 : Int32) (v3 : Int32) (I : mI) (J0 : mJ) (R0 : mR) : Nat → Int32 → Int32 → Option Int32
  | 0, _, _ => none
  | N + 1, v4, v5 =>
  if v3 ≤ v5 then
  some v4
  else
  if K v0 = (0, 5) then
  (R0 v0 0).bind fun x3 =>
  if mIx K x3 2 v5 then
  (some ((((10 : Int32) * v4) + (I x3 (v5).toNatClampNeg)) - (48 : Int32))).bind fun y6 =>
  f_X5_takeNumber_L42 K v0 v1 v2 v3 I J0 R0 N y6 (v5 + (1 : Int32))
  else none
  else none
def f_X5_takeNumber (K : mK) (a0 : Nat) (a1 : Int32) (a2 : Int32) (I0 : mI) (J0 : mJ) (R0 : mR) : Option (Bool × mI) :=
  if K a0 = (0, 5) then
  (f_X5_skipBlanks K a0 I0 J0 R0).bind fun z9 =>
  (f_X5_endOfRun K a0 (48 : Int32) (57 : Int32) z9 J0 R0).bind fun z11 =>
  if z11 = (z9 a0 2) then
  some (false, z9)
  else
  if (z11 - (z9 a0 2)) ≤ (3 : Int32) then
  (f_X5_takeNumber_L42 K a0 a1 a2 z11 z9 J0 R0 8192 (0 : Int32) (z9 a0 2)).bind fun z15 =>
  (f_X8_within K z15 a1 a2 z9 J0 R0).bind fun z17 =>
  if (mb z17) = 0 then
  some (false, z9)
  else
  (some (mup z9 a0 3 z15)).bind fun I20 =>
  (some (mup I20 a0 2 z11)).bind fun I22 =>
  some (true, I22)
  else
  some (false, z9)
  else none
set_option maxHeartbeats 4000000 in
set_option maxRecDepth 100000 in
theorem r_X5_takeNumber (l : Launch) (g : mG) (K : mK) (n : Nat) (hJ : mInj g n) (hO : mOk K n) (a0 : Nat) (a1 : Int32) (a2 : Int32) (I0 : mI) (J0 : mJ) (R0 : mR) (out : (Bool × mI)) (hf : f_X5_takeNumber K a0 a1 a2 I0 J0 R0 = some out) : Met l yX5_takeNumber (mWs yX5_takeNumber cX5_takeNumber 6 (some .boolean)) ({ frames := 2, cells := 0, slots := 0, locals := 45 }) (va_Pc [.ref (g.2.1 a0), .int a1, .int a2] (mB g K n I0 J0 R0)) (mQ g K n (some (.int (mb out.1))) out.2 J0 R0) 0 0 (mA g n) := by
  unfold f_X5_takeNumber at hf
  refine mStart RX5 hJ hO (by decide) rfl (Nat.le_of_ble_eq_true rfl) ?_
  intro p e s m below meth c ls Qm hQm B hr hlk hw hl
  have hx := B.1.1
  have hb := B.1.2.1
  have hl : lv_has ls 6 [(0, .ref (g.2.1 a0)), (1, .int a1), (2, .int a2)] := hl
  have L42 : ∀ (N : Nat) (v0 : Nat) (v1 : Int32) (v2 : Int32) (v3 : Int32) (v4 : Int32) (v5 : Int32) (I : mI) (z : Int32) (H : Heap) (locs : List Loc) (ls : Array Slot), f_X5_takeNumber_L42 K v0 v1 v2 v3 I J0 R0 N v4 v5 = some z → mHp g K n s I J0 R0 H locs → lv_has ls 6 [(0, .ref (g.2.1 v0)), (1, .int v1), (2, .int v2), (3, .int v3), (4, .int v4), (5, .int v5)] → (∀ (H : Heap) (locs : List Loc) (ls : Array Slot), mHp g K n s I J0 R0 H locs → lv_has ls 6 [(0, .ref (g.2.1 v0)), (1, .int v1), (2, .int v2), (3, .int v3), (4, .int z)] → W p l e ({ frames := 2, cells := 0, slots := 0, locals := 45 } : Room) s m ([.ref (g.2.1 a0), .int a1, .int a2] : List Value).toArray below meth c H locs 0 0 Qm (F0 m 72 ls [])) → W p l e ({ frames := 2, cells := 0, slots := 0, locals := 45 } : Room) s m ([.ref (g.2.1 a0), .int a1, .int a2] : List Value).toArray below meth c H locs 0 0 Qm (F0 m 42 ls []) := by
    intro N
    induction N with
    | zero =>
      intro v0 v1 v2 v3 v4 v5 I z H locs ls hf hw hl kx
      rw [f_X5_takeNumber_L42] at hf
      cases hf
    | succ N ih =>
      intro v0 v1 v2 v3 v4 v5 I z H locs ls hf hw hl kx
      rw [f_X5_takeNumber_L42] at hf
      refine lv_iload hx hb dX5_takeNumber_42 (lv_at hl 5 rfl) ?_
      refine lv_iload_n hx hb dX5_takeNumber_44 rfl (lv_at hl 3 rfl) ?_
      refine lv_icmp_ge (tgt := 72) hx hb dX5_takeNumber_45 (by decide) (fun c1 => ?_) (fun c1 => ?_)
      · replace hf := mT1 c1 hf
        obtain rfl := Option.some.inj hf
        exact kx _ _ _ hw (lv_sub hl [0, 1, 2, 3, 4] rfl)
      · replace hf := mF1 c1 hf
        refine lv_bipush (v := (10 : Int32)) hx hb dX5_takeNumber_48 (by decide) ?_
        refine lv_iload hx hb dX5_takeNumber_50 (lv_at hl 4 rfl) ?_
        refine lv_imul hx hb dX5_takeNumber_52 ?_
        refine lv_aload_n hx hb dX5_takeNumber_53 rfl (lv_at hl 0 rfl) ?_
        obtain ⟨h2, hf⟩ := mChk hf
        obtain ⟨x3, e4, hf⟩ := mBind hf
        refine mgr B hw flX5_9 rfl h2 e4 dX5_takeNumber_54 ?_
        refine lv_iload hx hb dX5_takeNumber_57 (lv_at hl 5 rfl) ?_
        obtain ⟨h5, hf⟩ := mChk hf
        refine mld2 B hw h5 dX5_takeNumber_59 ?_
        refine lv_iadd hx hb dX5_takeNumber_60 ?_
        refine lv_bipush (v := (48 : Int32)) hx hb dX5_takeNumber_61 (by decide) ?_
        refine lv_isub hx hb dX5_takeNumber_63 ?_
        obtain ⟨y6, e7, hf⟩ := mLet hf
        rw [← e7]
        refine lv_istore (lv' := [(4, .int y6), (0, .ref (g.2.1 v0)), (1, .int v1), (2, .int v2), (3, .int v3), (5, .int v5)]) hx hb dX5_takeNumber_64 hl (by decide) rfl (fun ls hl => ?_)
        refine lv_iinc (v := (v5 + (1 : Int32))) (lv' := [(5, .int (v5 + (1 : Int32))), (4, .int y6), (0, .ref (g.2.1 v0)), (1, .int v1), (2, .int v2), (3, .int v3)]) hx hb dX5_takeNumber_66 hl (k := 5) rfl rfl (by decide) rfl (fun ls hl => ?_)
        refine lv_goto (tgt := 42) hx hb dX5_takeNumber_69 (by decide) ?_
        exact ih v0 v1 v2 v3 y6 (v5 + (1 : Int32)) I z _ _ _ hf hw (lv_sub hl [2, 3, 4, 5, 1, 0] rfl) kx
  refine lv_aload_n hx hb dX5_takeNumber_0 rfl (lv_at hl 0 rfl) ?_
  obtain ⟨h8, hf⟩ := mChk hf
  obtain ⟨z9, e10, hf⟩ := mBind hf
  refine mcallV (rest := []) (ci := 5) B hw [] clX5_36 rfl h8 (r_X5_skipBlanks l g K n hJ hO a0 I0 J0 R0 z9 e10) ⟨rfl, rfl, Nat.le_of_ble_eq_true rfl, Nat.le_of_ble_eq_true rfl⟩ rfl hl.1 (Nat.le_of_ble_eq_true rfl) ⟨Nat.zero_le _, Nat.zero_le _⟩ dX5_takeNumber_1 (fun H locs hw => ?_)
  refine W.eq (g2 := F0 m 4 ls []) rfl ?_
  refine lv_aload_n hx hb dX5_takeNumber_4 rfl (lv_at hl 0 rfl) ?_
  refine lv_bipush (v := (48 : Int32)) hx hb dX5_takeNumber_5 (by decide) ?_
  refine lv_bipush (v := (57 : Int32)) hx hb dX5_takeNumber_7 (by decide) ?_
  obtain ⟨z11, e12, hf⟩ := mBind hf
  refine mcallV (rest := []) (ci := 5) B hw [.int (48 : Int32), .int (57 : Int32)] clX5_92 rfl h8 (r_X5_endOfRun l g K n hJ hO a0 (48 : Int32) (57 : Int32) z9 J0 R0 z11 e12) ⟨rfl, rfl, Nat.le_of_ble_eq_true rfl, Nat.le_of_ble_eq_true rfl⟩ rfl hl.1 (Nat.le_of_ble_eq_true rfl) ⟨Nat.zero_le _, Nat.zero_le _⟩ dX5_takeNumber_9 (fun H locs hw => ?_)
  refine W.eq (g2 := F0 m 12 ls [.int z11]) rfl ?_
  refine lv_istore_n (lv' := [(3, .int z11), (0, .ref (g.2.1 a0)), (1, .int a1), (2, .int a2)]) hx hb dX5_takeNumber_12 rfl hl (by decide) rfl (fun ls hl => ?_)
  refine lv_iload_n hx hb dX5_takeNumber_13 rfl (lv_at hl 0 rfl) ?_
  refine lv_aload_n hx hb dX5_takeNumber_14 rfl (lv_at hl 1 rfl) ?_
  refine mgi B hw flX5_28 rfl h8 dX5_takeNumber_15 ?_
  refine lv_icmp_eq (tgt := 31) hx hb dX5_takeNumber_18 (by decide) (fun c13 => ?_) (fun c13 => ?_)
  · replace hf := mT1 c13 hf
    refine lv_iconst (v := (0 : Int32)) hx hb dX5_takeNumber_31 (by decide) ?_
    rw [hQm, ← Option.some.inj hf]
    exact mrz (v := false) hx hb hr hlk hw dX5_takeNumber_32
  · replace hf := mF1 c13 hf
    refine lv_iload_n hx hb dX5_takeNumber_21 rfl (lv_at hl 0 rfl) ?_
    refine lv_aload_n hx hb dX5_takeNumber_22 rfl (lv_at hl 1 rfl) ?_
    refine mgi B hw flX5_28 rfl h8 dX5_takeNumber_23 ?_
    refine lv_isub hx hb dX5_takeNumber_26 ?_
    refine lv_iconst (v := (3 : Int32)) hx hb dX5_takeNumber_27 (by decide) ?_
    refine lv_icmp_le (tgt := 33) hx hb dX5_takeNumber_28 (by decide) (fun c14 => ?_) (fun c14 => ?_)
    · replace hf := mT1 c14 hf
      refine lv_iconst (v := (0 : Int32)) hx hb dX5_takeNumber_33 (by decide) ?_
      refine lv_istore (lv' := [(4, .int (0 : Int32)), (3, .int z11), (0, .ref (g.2.1 a0)), (1, .int a1), (2, .int a2)]) hx hb dX5_takeNumber_34 hl (by decide) rfl (fun ls hl => ?_)
      refine lv_aload_n hx hb dX5_takeNumber_36 rfl (lv_at hl 2 rfl) ?_
      refine mgi B hw flX5_28 rfl h8 dX5_takeNumber_37 ?_
      refine lv_istore (lv' := [(5, .int (z9 a0 2)), (4, .int (0 : Int32)), (3, .int z11), (0, .ref (g.2.1 a0)), (1, .int a1), (2, .int a2)]) hx hb dX5_takeNumber_40 hl (by decide) rfl (fun ls hl => ?_)
      obtain ⟨z15, e16, hf⟩ := mBind hf
      refine L42 8192 a0 a1 a2 z11 (0 : Int32) (z9 a0 2) z9 z15 _ _ _ e16 hw (lv_sub hl [3, 4, 5, 2, 1, 0] rfl) (fun H locs ls hw hl => ?_)
      refine lv_iload hx hb dX5_takeNumber_72 (lv_at hl 4 rfl) ?_
      refine lv_iload_n hx hb dX5_takeNumber_74 rfl (lv_at hl 1 rfl) ?_
      refine lv_iload_n hx hb dX5_takeNumber_75 rfl (lv_at hl 2 rfl) ?_
      obtain ⟨z17, e18, hf⟩ := mBind hf
      refine mcallN (rest := []) B hw [.int z15, .int a1, .int a2] clX5_105 (r_X8_within l g K n hJ hO z15 a1 a2 z9 J0 R0 z17 e18) ⟨rfl, rfl, Nat.le_of_ble_eq_true rfl, Nat.le_of_ble_eq_true rfl⟩ rfl hl.1 (Nat.le_of_ble_eq_true rfl) ⟨Nat.zero_le _, Nat.zero_le _⟩ dX5_takeNumber_76 (fun H locs hw => ?_)
      refine W.eq (g2 := F0 m 79 ls [.int (mb z17)]) rfl ?_
      refine lv_if_ne (tgt := 84) hx hb dX5_takeNumber_79 (by decide) (fun c19 => ?_) (fun c19 => ?_)
      · replace hf := mF1 c19 hf
        refine lv_aload_n hx hb dX5_takeNumber_84 rfl (lv_at hl 0 rfl) ?_
        refine lv_iload hx hb dX5_takeNumber_85 (lv_at hl 4 rfl) ?_
        obtain ⟨I20, e21, hf⟩ := mLet hf
        refine mpi B hw puX5_83 rfl h8 dX5_takeNumber_87 (fun H locs hw => ?_)
        rw [← e21] at hw
        refine lv_aload_n hx hb dX5_takeNumber_90 rfl (lv_at hl 0 rfl) ?_
        refine lv_iload_n hx hb dX5_takeNumber_91 rfl (lv_at hl 3 rfl) ?_
        obtain ⟨I22, e23, hf⟩ := mLet hf
        refine mpi B hw puX5_28 rfl h8 dX5_takeNumber_92 (fun H locs hw => ?_)
        rw [← e23] at hw
        refine lv_iconst (v := (1 : Int32)) hx hb dX5_takeNumber_95 (by decide) ?_
        rw [hQm, ← Option.some.inj hf]
        exact mrz (v := true) hx hb hr hlk hw dX5_takeNumber_96
      · replace hf := mT1 c19 hf
        refine lv_iconst (v := (0 : Int32)) hx hb dX5_takeNumber_82 (by decide) ?_
        rw [hQm, ← Option.some.inj hf]
        exact mrz (v := false) hx hb hr hlk hw dX5_takeNumber_83
    · replace hf := mF1 c14 hf
      refine lv_iconst (v := (0 : Int32)) hx hb dX5_takeNumber_31 (by decide) ?_
      rw [hQm, ← Option.some.inj hf]
      exact mrz (v := false) hx hb hr hlk hw dX5_takeNumber_32
def f_X5_takeEnd (K : mK) (a0 : Nat) (I0 : mI) (J0 : mJ) (R0 : mR) : Option (Bool × mI) :=
  if K a0 = (0, 5) then
  (f_X5_skipBlanks K a0 I0 J0 R0).bind fun z2 =>
  if (z2 a0 1) ≤ (z2 a0 2) then
  some (false, z2)
  else
  (R0 a0 0).bind fun x5 =>
  if mIx K x5 2 (z2 a0 2) then
  if (z2 x5 ((z2 a0 2)).toNatClampNeg) = (59 : Int32) then
  (some (mup z2 a0 2 ((z2 a0 2) + (1 : Int32)))).bind fun I9 =>
  some (true, I9)
  else
  some (false, z2)
  else none
  else none
set_option maxHeartbeats 4000000 in
set_option maxRecDepth 100000 in
theorem r_X5_takeEnd (l : Launch) (g : mG) (K : mK) (n : Nat) (hJ : mInj g n) (hO : mOk K n) (a0 : Nat) (I0 : mI) (J0 : mJ) (R0 : mR) (out : (Bool × mI)) (hf : f_X5_takeEnd K a0 I0 J0 R0 = some out) : Met l yX5_takeEnd (mWs yX5_takeEnd cX5_takeEnd 1 (some .boolean)) ({ frames := 1, cells := 0, slots := 0, locals := 20 }) (va_Pc [.ref (g.2.1 a0)] (mB g K n I0 J0 R0)) (mQ g K n (some (.int (mb out.1))) out.2 J0 R0) 0 0 (mA g n) := by
  unfold f_X5_takeEnd at hf
  refine mStart RX5 hJ hO (by decide) rfl (Nat.le_of_ble_eq_true rfl) ?_
  intro p e s m below meth c ls Qm hQm B hr hlk hw hl
  have hx := B.1.1
  have hb := B.1.2.1
  have hl : lv_has ls 1 [(0, .ref (g.2.1 a0))] := hl
  refine lv_aload_n hx hb dX5_takeEnd_0 rfl (lv_at hl 0 rfl) ?_
  obtain ⟨h1, hf⟩ := mChk hf
  obtain ⟨z2, e3, hf⟩ := mBind hf
  refine mcallV (rest := []) (ci := 5) B hw [] clX5_36 rfl h1 (r_X5_skipBlanks l g K n hJ hO a0 I0 J0 R0 z2 e3) ⟨rfl, rfl, Nat.le_of_ble_eq_true rfl, Nat.le_of_ble_eq_true rfl⟩ rfl hl.1 (Nat.le_of_ble_eq_true rfl) ⟨Nat.zero_le _, Nat.zero_le _⟩ dX5_takeEnd_1 (fun H locs hw => ?_)
  refine W.eq (g2 := F0 m 4 ls []) rfl ?_
  refine lv_aload_n hx hb dX5_takeEnd_4 rfl (lv_at hl 0 rfl) ?_
  refine mgi B hw flX5_28 rfl h1 dX5_takeEnd_5 ?_
  refine lv_aload_n hx hb dX5_takeEnd_8 rfl (lv_at hl 0 rfl) ?_
  refine mgi B hw flX5_25 rfl h1 dX5_takeEnd_9 ?_
  refine lv_icmp_ge (tgt := 29) hx hb dX5_takeEnd_12 (by decide) (fun c4 => ?_) (fun c4 => ?_)
  · replace hf := mT1 c4 hf
    refine lv_iconst (v := (0 : Int32)) hx hb dX5_takeEnd_29 (by decide) ?_
    rw [hQm, ← Option.some.inj hf]
    exact mrz (v := false) hx hb hr hlk hw dX5_takeEnd_30
  · replace hf := mF1 c4 hf
    refine lv_aload_n hx hb dX5_takeEnd_15 rfl (lv_at hl 0 rfl) ?_
    obtain ⟨x5, e6, hf⟩ := mBind hf
    refine mgr B hw flX5_9 rfl h1 e6 dX5_takeEnd_16 ?_
    refine lv_aload_n hx hb dX5_takeEnd_19 rfl (lv_at hl 0 rfl) ?_
    refine mgi B hw flX5_28 rfl h1 dX5_takeEnd_20 ?_
    obtain ⟨h7, hf⟩ := mChk hf
    refine mld2 B hw h7 dX5_takeEnd_23 ?_
    refine lv_bipush (v := (59 : Int32)) hx hb dX5_takeEnd_24 (by decide) ?_
    refine lv_icmp_eq (tgt := 31) hx hb dX5_takeEnd_26 (by decide) (fun c8 => ?_) (fun c8 => ?_)
    · replace hf := mT1 c8 hf
      refine lv_aload_n hx hb dX5_takeEnd_31 rfl (lv_at hl 0 rfl) ?_
      refine lv_dup hx hb dX5_takeEnd_32 rfl ?_
      refine mgi B hw flX5_28 rfl h1 dX5_takeEnd_33 ?_
      refine lv_iconst (v := (1 : Int32)) hx hb dX5_takeEnd_36 (by decide) ?_
      refine lv_iadd hx hb dX5_takeEnd_37 ?_
      obtain ⟨I9, e10, hf⟩ := mLet hf
      refine mpi B hw puX5_28 rfl h1 dX5_takeEnd_38 (fun H locs hw => ?_)
      rw [← e10] at hw
      refine lv_iconst (v := (1 : Int32)) hx hb dX5_takeEnd_41 (by decide) ?_
      rw [hQm, ← Option.some.inj hf]
      exact mrz (v := true) hx hb hr hlk hw dX5_takeEnd_42
    · replace hf := mF1 c8 hf
      refine lv_iconst (v := (0 : Int32)) hx hb dX5_takeEnd_29 (by decide) ?_
      rw [hQm, ← Option.some.inj hf]
      exact mrz (v := false) hx hb hr hlk hw dX5_takeEnd_30
def f_X5_takeEntry (K : mK) (a0 : Nat) (a1 : Nat) (a2 : Int32) (a3 : Int32) (I0 : mI) (J0 : mJ) (R0 : mR) : Option (Bool × mI) :=
  if (K a1).1 = 1 then
  if K a0 = (0, 5) then
  (f_X5_takeNumber K a0 a2 (imin a3 ((nI (K a1).2) - (1 : Int32))) I0 J0 R0).bind fun z3 =>
  if (mb z3.1) = 0 then
  some (false, z3.2)
  else
  (f_X5_takeWord K a0 1 z3.2 J0 R0).bind fun z6 =>
  if (mb z6.1) = 0 then
  some (false, z6.2)
  else
  (f_X5_takeNumber K a0 (0 : Int32) (999 : Int32) z6.2 J0 R0).bind fun z9 =>
  if (mb z9.1) = 0 then
  some (false, z9.2)
  else
  if mIx K a1 1 (z3.2 a0 3) then
  (some (mup z9.2 a1 ((z3.2 a0 3)).toNatClampNeg (z9.2 a0 3))).bind fun I13 =>
  (f_X5_takeEnd K a0 I13 J0 R0).bind fun z15 =>
  some (z15.1, z15.2)
  else none
  else none
  else none
set_option maxHeartbeats 4000000 in
set_option maxRecDepth 100000 in
theorem r_X5_takeEntry (l : Launch) (g : mG) (K : mK) (n : Nat) (hJ : mInj g n) (hO : mOk K n) (a0 : Nat) (a1 : Nat) (a2 : Int32) (a3 : Int32) (I0 : mI) (J0 : mJ) (R0 : mR) (out : (Bool × mI)) (hf : f_X5_takeEntry K a0 a1 a2 a3 I0 J0 R0 = some out) : Met l yX5_takeEntry (mWs yX5_takeEntry cX5_takeEntry 5 (some .boolean)) ({ frames := 5, cells := 0, slots := 0, locals := 133 }) (va_Pc [.ref (g.2.1 a0), .ref (g.2.1 a1), .int a2, .int a3] (mB g K n I0 J0 R0)) (mQ g K n (some (.int (mb out.1))) out.2 J0 R0) 0 0 (mA g n) := by
  unfold f_X5_takeEntry at hf
  refine mStart RX5 hJ hO (by decide) rfl (Nat.le_of_ble_eq_true rfl) ?_
  intro p e s m below meth c ls Qm hQm B hr hlk hw hl
  have hx := B.1.1
  have hb := B.1.2.1
  have hl : lv_has ls 5 [(0, .ref (g.2.1 a0)), (1, .ref (g.2.1 a1)), (2, .int a2), (3, .int a3)] := hl
  refine lv_aload_n hx hb dX5_takeEntry_0 rfl (lv_at hl 0 rfl) ?_
  refine lv_iload_n hx hb dX5_takeEntry_1 rfl (lv_at hl 2 rfl) ?_
  refine lv_iload_n hx hb dX5_takeEntry_2 rfl (lv_at hl 3 rfl) ?_
  refine lv_aload_n hx hb dX5_takeEntry_3 rfl (lv_at hl 1 rfl) ?_
  obtain ⟨h1, hf⟩ := mChk hf
  refine mlen1 B hw h1 dX5_takeEntry_4 ?_
  refine lv_iconst (v := (1 : Int32)) hx hb dX5_takeEntry_5 (by decide) ?_
  refine lv_isub hx hb dX5_takeEntry_6 ?_
  refine mmmin B hl.1 mhX5_19 (Nat.le_of_ble_eq_true rfl) (Nat.le_of_ble_eq_true rfl) (Nat.zero_le _) (Nat.zero_le _) dX5_takeEntry_7 ?_
  obtain ⟨h2, hf⟩ := mChk hf
  obtain ⟨z3, e4, hf⟩ := mBind hf
  refine mcallV (rest := []) (ci := 5) B hw [.int a2, .int (imin a3 ((nI (K a1).2) - (1 : Int32)))] clX5_79 rfl h2 (r_X5_takeNumber l g K n hJ hO a0 a2 (imin a3 ((nI (K a1).2) - (1 : Int32))) I0 J0 R0 z3 e4) ⟨rfl, rfl, Nat.le_of_ble_eq_true rfl, Nat.le_of_ble_eq_true rfl⟩ rfl hl.1 (Nat.le_of_ble_eq_true rfl) ⟨Nat.zero_le _, Nat.zero_le _⟩ dX5_takeEntry_10 (fun H locs hw => ?_)
  refine W.eq (g2 := F0 m 13 ls [.int (mb z3.1)]) rfl ?_
  refine lv_if_ne (tgt := 18) hx hb dX5_takeEntry_13 (by decide) (fun c5 => ?_) (fun c5 => ?_)
  · replace hf := mF1 c5 hf
    refine lv_aload_n hx hb dX5_takeEntry_18 rfl (lv_at hl 0 rfl) ?_
    refine mgi B hw flX5_83 rfl h2 dX5_takeEntry_19 ?_
    refine lv_istore (lv' := [(4, .int (z3.2 a0 3)), (0, .ref (g.2.1 a0)), (1, .ref (g.2.1 a1)), (2, .int a2), (3, .int a3)]) hx hb dX5_takeEntry_22 hl (by decide) rfl (fun ls hl => ?_)
    refine lv_aload_n hx hb dX5_takeEntry_24 rfl (lv_at hl 1 rfl) ?_
    refine va_ldcS hx hb B.1.2.2.2.1 (B.2.2.2.2.2.1 1 (by decide)) dX5_takeEntry_25 ?_
    obtain ⟨z6, e7, hf⟩ := mBind hf
    refine mcallV (rest := []) (ci := 5) B hw [.ref (g.2.2.2.1 1)] clX5_45 rfl h2 (r_X5_takeWord l g K n hJ hO a0 1 z3.2 J0 R0 z6 e7) ⟨rfl, rfl, Nat.le_of_ble_eq_true rfl, Nat.le_of_ble_eq_true rfl⟩ rfl hl.1 (Nat.le_of_ble_eq_true rfl) ⟨Nat.zero_le _, Nat.zero_le _⟩ dX5_takeEntry_27 (fun H locs hw => ?_)
    refine W.eq (g2 := F0 m 30 ls [.int (mb z6.1)]) rfl ?_
    refine lv_if_eq (tgt := 44) hx hb dX5_takeEntry_30 (by decide) (fun c8 => ?_) (fun c8 => ?_)
    · replace hf := mT1 c8 hf
      refine lv_iconst (v := (0 : Int32)) hx hb dX5_takeEntry_44 (by decide) ?_
      rw [hQm, ← Option.some.inj hf]
      exact mrz (v := false) hx hb hr hlk hw dX5_takeEntry_45
    · replace hf := mF1 c8 hf
      refine lv_aload_n hx hb dX5_takeEntry_33 rfl (lv_at hl 1 rfl) ?_
      refine lv_iconst (v := (0 : Int32)) hx hb dX5_takeEntry_34 (by decide) ?_
      refine lv_sipush (v := (999 : Int32)) hx hb dX5_takeEntry_35 (by decide) ?_
      obtain ⟨z9, e10, hf⟩ := mBind hf
      refine mcallV (rest := []) (ci := 5) B hw [.int (0 : Int32), .int (999 : Int32)] clX5_79 rfl h2 (r_X5_takeNumber l g K n hJ hO a0 (0 : Int32) (999 : Int32) z6.2 J0 R0 z9 e10) ⟨rfl, rfl, Nat.le_of_ble_eq_true rfl, Nat.le_of_ble_eq_true rfl⟩ rfl hl.1 (Nat.le_of_ble_eq_true rfl) ⟨Nat.zero_le _, Nat.zero_le _⟩ dX5_takeEntry_38 (fun H locs hw => ?_)
      refine W.eq (g2 := F0 m 41 ls [.int (mb z9.1)]) rfl ?_
      refine lv_if_ne (tgt := 46) hx hb dX5_takeEntry_41 (by decide) (fun c11 => ?_) (fun c11 => ?_)
      · replace hf := mF1 c11 hf
        refine lv_aload_n hx hb dX5_takeEntry_46 rfl (lv_at hl 2 rfl) ?_
        refine lv_iload hx hb dX5_takeEntry_47 (lv_at hl 0 rfl) ?_
        refine lv_aload_n hx hb dX5_takeEntry_49 rfl (lv_at hl 1 rfl) ?_
        refine mgi B hw flX5_83 rfl h2 dX5_takeEntry_50 ?_
        obtain ⟨h12, hf⟩ := mChk hf
        obtain ⟨I13, e14, hf⟩ := mLet hf
        refine mst1 B hw h12 dX5_takeEntry_53 (fun H locs hw => ?_)
        rw [← e14] at hw
        refine lv_aload_n hx hb dX5_takeEntry_54 rfl (lv_at hl 1 rfl) ?_
        obtain ⟨z15, e16, hf⟩ := mBind hf
        refine mcallV (rest := []) (ci := 5) B hw [] clX5_88 rfl h2 (r_X5_takeEnd l g K n hJ hO a0 I13 J0 R0 z15 e16) ⟨rfl, rfl, Nat.le_of_ble_eq_true rfl, Nat.le_of_ble_eq_true rfl⟩ rfl hl.1 (Nat.le_of_ble_eq_true rfl) ⟨Nat.zero_le _, Nat.zero_le _⟩ dX5_takeEntry_55 (fun H locs hw => ?_)
        refine W.eq (g2 := F0 m 58 ls [.int (mb z15.1)]) rfl ?_
        rw [hQm, ← Option.some.inj hf]
        exact mrz (v := z15.1) hx hb hr hlk hw dX5_takeEntry_58
      · replace hf := mT1 c11 hf
        refine lv_iconst (v := (0 : Int32)) hx hb dX5_takeEntry_44 (by decide) ?_
        rw [hQm, ← Option.some.inj hf]
        exact mrz (v := false) hx hb hr hlk hw dX5_takeEntry_45
  · replace hf := mT1 c5 hf
    refine lv_iconst (v := (0 : Int32)) hx hb dX5_takeEntry_16 (by decide) ?_
    rw [hQm, ← Option.some.inj hf]
    exact mrz (v := false) hx hb hr hlk hw dX5_takeEntry_17
def f_X5_takeTerm (K : mK) (a0 : Nat) (a1 : Nat) (a2 : Int32) (a3 : Int32) (a4 : Int32) (I0 : mI) (J0 : mJ) (R0 : mR) : Option (Bool × mI) :=
  if K a0 = (0, 5) then
  (f_X5_takeNumber K a0 a3 a4 I0 J0 R0).bind fun z2 =>
  if (mb z2.1) = 0 then
  some (false, z2.2)
  else
  if mIx K a1 1 a2 then
  (some (mup z2.2 a1 (a2).toNatClampNeg (z2.2 a0 3))).bind fun I6 =>
  (f_X5_takeEnd K a0 I6 J0 R0).bind fun z8 =>
  some (z8.1, z8.2)
  else none
  else none
set_option maxHeartbeats 4000000 in
set_option maxRecDepth 100000 in
theorem r_X5_takeTerm (l : Launch) (g : mG) (K : mK) (n : Nat) (hJ : mInj g n) (hO : mOk K n) (a0 : Nat) (a1 : Nat) (a2 : Int32) (a3 : Int32) (a4 : Int32) (I0 : mI) (J0 : mJ) (R0 : mR) (out : (Bool × mI)) (hf : f_X5_takeTerm K a0 a1 a2 a3 a4 I0 J0 R0 = some out) : Met l yX5_takeTerm (mWs yX5_takeTerm cX5_takeTerm 5 (some .boolean)) ({ frames := 3, cells := 0, slots := 0, locals := 70 }) (va_Pc [.ref (g.2.1 a0), .ref (g.2.1 a1), .int a2, .int a3, .int a4] (mB g K n I0 J0 R0)) (mQ g K n (some (.int (mb out.1))) out.2 J0 R0) 0 0 (mA g n) := by
  unfold f_X5_takeTerm at hf
  refine mStart RX5 hJ hO (by decide) rfl (Nat.le_of_ble_eq_true rfl) ?_
  intro p e s m below meth c ls Qm hQm B hr hlk hw hl
  have hx := B.1.1
  have hb := B.1.2.1
  have hl : lv_has ls 5 [(0, .ref (g.2.1 a0)), (1, .ref (g.2.1 a1)), (2, .int a2), (3, .int a3), (4, .int a4)] := hl
  refine lv_aload_n hx hb dX5_takeTerm_0 rfl (lv_at hl 0 rfl) ?_
  refine lv_iload_n hx hb dX5_takeTerm_1 rfl (lv_at hl 3 rfl) ?_
  refine lv_iload hx hb dX5_takeTerm_2 (lv_at hl 4 rfl) ?_
  obtain ⟨h1, hf⟩ := mChk hf
  obtain ⟨z2, e3, hf⟩ := mBind hf
  refine mcallV (rest := []) (ci := 5) B hw [.int a3, .int a4] clX5_79 rfl h1 (r_X5_takeNumber l g K n hJ hO a0 a3 a4 I0 J0 R0 z2 e3) ⟨rfl, rfl, Nat.le_of_ble_eq_true rfl, Nat.le_of_ble_eq_true rfl⟩ rfl hl.1 (Nat.le_of_ble_eq_true rfl) ⟨Nat.zero_le _, Nat.zero_le _⟩ dX5_takeTerm_4 (fun H locs hw => ?_)
  refine W.eq (g2 := F0 m 7 ls [.int (mb z2.1)]) rfl ?_
  refine lv_if_ne (tgt := 12) hx hb dX5_takeTerm_7 (by decide) (fun c4 => ?_) (fun c4 => ?_)
  · replace hf := mF1 c4 hf
    refine lv_aload_n hx hb dX5_takeTerm_12 rfl (lv_at hl 1 rfl) ?_
    refine lv_iload_n hx hb dX5_takeTerm_13 rfl (lv_at hl 2 rfl) ?_
    refine lv_aload_n hx hb dX5_takeTerm_14 rfl (lv_at hl 0 rfl) ?_
    refine mgi B hw flX5_83 rfl h1 dX5_takeTerm_15 ?_
    obtain ⟨h5, hf⟩ := mChk hf
    obtain ⟨I6, e7, hf⟩ := mLet hf
    refine mst1 B hw h5 dX5_takeTerm_18 (fun H locs hw => ?_)
    rw [← e7] at hw
    refine lv_aload_n hx hb dX5_takeTerm_19 rfl (lv_at hl 0 rfl) ?_
    obtain ⟨z8, e9, hf⟩ := mBind hf
    refine mcallV (rest := []) (ci := 5) B hw [] clX5_88 rfl h1 (r_X5_takeEnd l g K n hJ hO a0 I6 J0 R0 z8 e9) ⟨rfl, rfl, Nat.le_of_ble_eq_true rfl, Nat.le_of_ble_eq_true rfl⟩ rfl hl.1 (Nat.le_of_ble_eq_true rfl) ⟨Nat.zero_le _, Nat.zero_le _⟩ dX5_takeTerm_20 (fun H locs hw => ?_)
    refine W.eq (g2 := F0 m 23 ls [.int (mb z8.1)]) rfl ?_
    rw [hQm, ← Option.some.inj hf]
    exact mrz (v := z8.1) hx hb hr hlk hw dX5_takeTerm_23
  · replace hf := mT1 c4 hf
    refine lv_iconst (v := (0 : Int32)) hx hb dX5_takeTerm_10 (by decide) ?_
    rw [hQm, ← Option.some.inj hf]
    exact mrz (v := false) hx hb hr hlk hw dX5_takeTerm_11
