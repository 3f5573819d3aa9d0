def f_X9_margin (K : mK) (a0 : Nat) (a1 : Int32) (I0 : mI) (J0 : mJ) (R0 : mR) : Option (Int32 × mI) :=
  if K a0 = (0, 9) then
  (f_X9_isFile K a0 (1 : Int32) a1 I0 J0 R0).bind fun z2 =>
  if (mb z2) = 0 then
  some ((-1 : Int32), I0)
  else
  (f_X9_shares K a0 I0 J0 R0).bind fun z5 =>
  (R0 a0 5).bind fun x7 =>
  if mIx K x7 1 a1 then
  (R0 a0 9).bind fun x10 =>
  if mIx K x10 1 (z5 x7 (a1).toNatClampNeg) then
  if (z5 x10 ((z5 x7 (a1).toNatClampNeg)).toNatClampNeg) = (-1 : Int32) then
  some ((-1 : Int32), z5)
  else
  (f_X9_marginOf K a0 (z5 x7 (a1).toNatClampNeg) z5 J0 R0).bind fun z14 =>
  some (z14.1, z14.2)
  else none
  else none
  else none
set_option maxHeartbeats 4000000 in
set_option maxRecDepth 100000 in
theorem r_X9_margin (l : Launch) (g : mG) (K : mK) (n : Nat) (hJ : mInj g n) (hO : mOk K n) (a0 : Nat) (a1 : Int32) (I0 : mI) (J0 : mJ) (R0 : mR) (out : (Int32 × mI)) (hf : f_X9_margin K a0 a1 I0 J0 R0 = some out) : Met l yX9_margin (mWs yX9_margin cX9_margin 3 (some .int)) ({ frames := 6, cells := 0, slots := 0, locals := 142 }) (va_Pc [.ref (g.2.1 a0), .int a1] (mB g K n I0 J0 R0)) (mQ g K n (some (.int out.1)) out.2 J0 R0) 0 0 (mA g n) := by
  unfold f_X9_margin at hf
  refine mStart RX9 hJ hO (by decide) rfl (Nat.le_of_ble_eq_true rfl) ?_
  intro p e s m below meth c ls Qm hQm B hr hlk hw hl
  have hx := B.1.1
  have hb := B.1.2.1
  have hl : lv_has ls 3 [(0, .ref (g.2.1 a0)), (1, .int a1)] := hl
  refine lv_aload_n hx hb dX9_margin_0 rfl (lv_at hl 0 rfl) ?_
  refine lv_iconst (v := (1 : Int32)) hx hb dX9_margin_1 (by decide) ?_
  refine lv_iload_n hx hb dX9_margin_2 rfl (lv_at hl 1 rfl) ?_
  obtain ⟨h1, hf⟩ := mChk hf
  obtain ⟨z2, e3, hf⟩ := mBind hf
  refine mcallV (rest := []) (ci := 9) B hw [.int (1 : Int32), .int a1] clX9_68 rfl h1 (r_X9_isFile l g K n hJ hO a0 (1 : Int32) a1 I0 J0 R0 z2 e3) ⟨rfl, rfl, Nat.le_of_ble_eq_true rfl, Nat.le_of_ble_eq_true rfl⟩ rfl hl.1 (Nat.le_of_ble_eq_true rfl) ⟨Nat.zero_le _, Nat.zero_le _⟩ dX9_margin_3 (fun H locs hw => ?_)
  refine W.eq (g2 := F0 m 6 ls [.int (mb z2)]) rfl ?_
  refine lv_if_ne (tgt := 11) hx hb dX9_margin_6 (by decide) (fun c4 => ?_) (fun c4 => ?_)
  · replace hf := mF1 c4 hf
    refine lv_aload_n hx hb dX9_margin_11 rfl (lv_at hl 0 rfl) ?_
    obtain ⟨z5, e6, hf⟩ := mBind hf
    refine mcallV (rest := []) (ci := 9) B hw [] clX9_136 rfl h1 (r_X9_shares l g K n hJ hO a0 I0 J0 R0 z5 e6) ⟨rfl, rfl, Nat.le_of_ble_eq_true rfl, Nat.le_of_ble_eq_true rfl⟩ rfl hl.1 (Nat.le_of_ble_eq_true rfl) ⟨Nat.zero_le _, Nat.zero_le _⟩ dX9_margin_12 (fun H locs hw => ?_)
    refine W.eq (g2 := F0 m 15 ls []) rfl ?_
    refine lv_aload_n hx hb dX9_margin_15 rfl (lv_at hl 0 rfl) ?_
    obtain ⟨x7, e8, hf⟩ := mBind hf
    refine mgr B hw flX9_25 rfl h1 e8 dX9_margin_16 ?_
    refine lv_iload_n hx hb dX9_margin_19 rfl (lv_at hl 1 rfl) ?_
    obtain ⟨h9, hf⟩ := mChk hf
    refine mld1 B hw h9 dX9_margin_20 ?_
    refine lv_istore_n (lv' := [(2, .int (z5 x7 (a1).toNatClampNeg)), (0, .ref (g.2.1 a0)), (1, .int a1)]) hx hb dX9_margin_21 rfl hl (by decide) rfl (fun ls hl => ?_)
    refine lv_aload_n hx hb dX9_margin_22 rfl (lv_at hl 1 rfl) ?_
    obtain ⟨x10, e11, hf⟩ := mBind hf
    refine mgr B hw flX9_38 rfl h1 e11 dX9_margin_23 ?_
    refine lv_iload_n hx hb dX9_margin_26 rfl (lv_at hl 0 rfl) ?_
    obtain ⟨h12, hf⟩ := mChk hf
    refine mld1 B hw h12 dX9_margin_27 ?_
    refine lv_iconst (v := (-1 : Int32)) hx hb dX9_margin_28 (by decide) ?_
    refine lv_icmp_ne (tgt := 36) hx hb dX9_margin_29 (by decide) (fun c13 => ?_) (fun c13 => ?_)
    · replace hf := mF1 c13 hf
      refine lv_aload_n hx hb dX9_margin_36 rfl (lv_at hl 1 rfl) ?_
      refine lv_iload_n hx hb dX9_margin_37 rfl (lv_at hl 0 rfl) ?_
      obtain ⟨z14, e15, hf⟩ := mBind hf
      refine mcallV (rest := []) (ci := 9) B hw [.int (z5 x7 (a1).toNatClampNeg)] clX9_139 rfl h1 (r_X9_marginOf l g K n hJ hO a0 (z5 x7 (a1).toNatClampNeg) z5 J0 R0 z14 e15) ⟨rfl, rfl, Nat.le_of_ble_eq_true rfl, Nat.le_of_ble_eq_true rfl⟩ rfl hl.1 (Nat.le_of_ble_eq_true rfl) ⟨Nat.zero_le _, Nat.zero_le _⟩ dX9_margin_38 (fun H locs hw => ?_)
      refine W.eq (g2 := F0 m 41 ls [.int z14.1]) rfl ?_
      rw [hQm, ← Option.some.inj hf]
      exact mri hx hb hr hlk hw dX9_margin_41
    · replace hf := mT1 c13 hf
      refine lv_iconst (v := (-1 : Int32)) hx hb dX9_margin_32 (by decide) ?_
      refine lv_goto (tgt := 41) hx hb dX9_margin_33 (by decide) ?_
      rw [hQm, ← Option.some.inj hf]
      exact mri hx hb hr hlk hw dX9_margin_41
  · replace hf := mT1 c4 hf
    refine lv_iconst (v := (-1 : Int32)) hx hb dX9_margin_9 (by decide) ?_
    rw [hQm, ← Option.some.inj hf]
    exact mri hx hb hr hlk hw dX9_margin_10
def f_X9_sealed_L5 (K : mK) (v0 : Nat) (v1 : Int32) (v2 : Int32) (I0 : mI) (J0 : mJ) (R0 : mR) : Nat → Int32 → Int32 → Option Int32
  | 0, _, _ => none
  | N + 1, v3, v4 =>
  if K v0 = (0, 9) then
  if (I0 v0 10) ≤ v4 then
  some v3
  else
  (R0 v0 11).bind fun x3 =>
  if mIx K x3 1 v4 then
  if (I0 x3 (v4).toNatClampNeg) = v1 then
  (R0 v0 12).bind fun x7 =>
  if mIx K x7 1 v4 then
  if (I0 x7 (v4).toNatClampNeg) = v2 then
  (R0 v0 13).bind fun x11 =>
  if mIx K x11 1 v4 then
  (some (v3 ||| ((1 : Int32) <<< ((I0 x11 (v4).toNatClampNeg) &&& 31)))).bind fun y14 =>
  f_X9_sealed_L5 K v0 v1 v2 I0 J0 R0 N y14 (v4 + (1 : Int32))
  else none
  else
  f_X9_sealed_L5 K v0 v1 v2 I0 J0 R0 N v3 (v4 + (1 : Int32))
  else none
  else
  f_X9_sealed_L5 K v0 v1 v2 I0 J0 R0 N v3 (v4 + (1 : Int32))
  else none
  else none
def f_X9_sealed (K : mK) (a0 : Nat) (a1 : Int32) (a2 : Int32) (I0 : mI) (J0 : mJ) (R0 : mR) : Option Int32 :=
  (f_X9_sealed_L5 K a0 a1 a2 I0 J0 R0 8192 (0 : Int32) (0 : Int32)).bind fun z16 =>
  some z16
set_option maxHeartbeats 4000000 in
set_option maxRecDepth 100000 in
theorem r_X9_sealed (l : Launch) (g : mG) (K : mK) (n : Nat) (hJ : mInj g n) (hO : mOk K n) (a0 : Nat) (a1 : Int32) (a2 : Int32) (I0 : mI) (J0 : mJ) (R0 : mR) (out : Int32) (hf : f_X9_sealed K a0 a1 a2 I0 J0 R0 = some out) : Met l yX9_sealed (mWs yX9_sealed cX9_sealed 5 (some .int)) ({ frames := 0, cells := 0, slots := 0, locals := 0 }) (va_Pc [.ref (g.2.1 a0), .int a1, .int a2] (mB g K n I0 J0 R0)) (mQ g K n (some (.int out)) I0 J0 R0) 0 0 (mA g n) := by
  unfold f_X9_sealed at hf
  refine mStart RX9 hJ hO (by decide) rfl (Nat.le_of_ble_eq_true rfl) ?_
  intro p e s m below meth c ls Qm hQm B hr hlk hw hl
  have hx := B.1.1
  have hb := B.1.2.1
  have hl : lv_has ls 5 [(0, .ref (g.2.1 a0)), (1, .int a1), (2, .int a2)] := hl
  have L5 : ∀ (N : Nat) (v0 : Nat) (v1 : Int32) (v2 : Int32) (v3 : Int32) (v4 : Int32) (z : Int32) (H : Heap) (locs : List Loc) (ls : Array Slot), f_X9_sealed_L5 K v0 v1 v2 I0 J0 R0 N v3 v4 = some z → mHp g K n s I0 J0 R0 H locs → lv_has ls 5 [(0, .ref (g.2.1 v0)), (1, .int v1), (2, .int v2), (3, .int v3), (4, .int v4)] → (∀ (H : Heap) (locs : List Loc) (ls : Array Slot), mHp g K n s I0 J0 R0 H locs → lv_has ls 5 [(3, .int z)] → W p l e ({ frames := 0, cells := 0, slots := 0, locals := 0 } : Room) s m ([.ref (g.2.1 a0), .int a1, .int a2] : List Value).toArray below meth c H locs 0 0 Qm (F0 m 54 ls [])) → W p l e ({ frames := 0, cells := 0, slots := 0, locals := 0 } : Room) s m ([.ref (g.2.1 a0), .int a1, .int a2] : List Value).toArray below meth c H locs 0 0 Qm (F0 m 5 ls []) := by
    intro N
    induction N with
    | zero =>
      intro v0 v1 v2 v3 v4  z H locs ls hf hw hl kx
      rw [f_X9_sealed_L5] at hf
      cases hf
    | succ N ih =>
      intro v0 v1 v2 v3 v4  z H locs ls hf hw hl kx
      rw [f_X9_sealed_L5] at hf
      refine lv_iload hx hb dX9_sealed_5 (lv_at hl 4 rfl) ?_
      refine lv_aload_n hx hb dX9_sealed_7 rfl (lv_at hl 0 rfl) ?_
      obtain ⟨h1, hf⟩ := mChk hf
      refine mgi B hw flX9_142 rfl h1 dX9_sealed_8 ?_
      refine lv_icmp_ge (tgt := 54) hx hb dX9_sealed_11 (by decide) (fun c2 => ?_) (fun c2 => ?_)
      · replace hf := mT1 c2 hf
        obtain rfl := Option.some.inj hf
        exact kx _ _ _ hw (lv_sub hl [3] rfl)
      · replace hf := mF1 c2 hf
        refine lv_aload_n hx hb dX9_sealed_14 rfl (lv_at hl 0 rfl) ?_
        obtain ⟨x3, e4, hf⟩ := mBind hf
        refine mgr B hw flX9_41 rfl h1 e4 dX9_sealed_15 ?_
        refine lv_iload hx hb dX9_sealed_18 (lv_at hl 4 rfl) ?_
        obtain ⟨h5, hf⟩ := mChk hf
        refine mld1 B hw h5 dX9_sealed_20 ?_
        refine lv_iload_n hx hb dX9_sealed_21 rfl (lv_at hl 1 rfl) ?_
        refine lv_icmp_ne (tgt := 48) hx hb dX9_sealed_22 (by decide) (fun c6 => ?_) (fun c6 => ?_)
        · replace hf := mF1 c6 hf
          refine lv_iinc (v := (v4 + (1 : Int32))) (lv' := [(4, .int (v4 + (1 : Int32))), (0, .ref (g.2.1 v0)), (1, .int v1), (2, .int v2), (3, .int v3)]) hx hb dX9_sealed_48 hl (k := 4) rfl rfl (by decide) rfl (fun ls hl => ?_)
          refine lv_goto (tgt := 5) hx hb dX9_sealed_51 (by decide) ?_
          exact ih v0 v1 v2 v3 (v4 + (1 : Int32)) z _ _ _ hf hw (lv_sub hl [1, 2, 3, 4, 0] rfl) kx
        · replace hf := mT1 c6 hf
          refine lv_aload_n hx hb dX9_sealed_25 rfl (lv_at hl 0 rfl) ?_
          obtain ⟨x7, e8, hf⟩ := mBind hf
          refine mgr B hw flX9_44 rfl h1 e8 dX9_sealed_26 ?_
          refine lv_iload hx hb dX9_sealed_29 (lv_at hl 4 rfl) ?_
          obtain ⟨h9, hf⟩ := mChk hf
          refine mld1 B hw h9 dX9_sealed_31 ?_
          refine lv_iload_n hx hb dX9_sealed_32 rfl (lv_at hl 2 rfl) ?_
          refine lv_icmp_ne (tgt := 48) hx hb dX9_sealed_33 (by decide) (fun c10 => ?_) (fun c10 => ?_)
          · replace hf := mF1 c10 hf
            refine lv_iinc (v := (v4 + (1 : Int32))) (lv' := [(4, .int (v4 + (1 : Int32))), (0, .ref (g.2.1 v0)), (1, .int v1), (2, .int v2), (3, .int v3)]) hx hb dX9_sealed_48 hl (k := 4) rfl rfl (by decide) rfl (fun ls hl => ?_)
            refine lv_goto (tgt := 5) hx hb dX9_sealed_51 (by decide) ?_
            exact ih v0 v1 v2 v3 (v4 + (1 : Int32)) z _ _ _ hf hw (lv_sub hl [1, 2, 3, 4, 0] rfl) kx
          · replace hf := mT1 c10 hf
            refine lv_iload_n hx hb dX9_sealed_36 rfl (lv_at hl 3 rfl) ?_
            refine lv_iconst (v := (1 : Int32)) hx hb dX9_sealed_37 (by decide) ?_
            refine lv_aload_n hx hb dX9_sealed_38 rfl (lv_at hl 0 rfl) ?_
            obtain ⟨x11, e12, hf⟩ := mBind hf
            refine mgr B hw flX9_47 rfl h1 e12 dX9_sealed_39 ?_
            refine lv_iload hx hb dX9_sealed_42 (lv_at hl 4 rfl) ?_
            obtain ⟨h13, hf⟩ := mChk hf
            refine mld1 B hw h13 dX9_sealed_44 ?_
            refine lv_ishl hx hb dX9_sealed_45 ?_
            refine lv_ior hx hb dX9_sealed_46 ?_
            obtain ⟨y14, e15, hf⟩ := mLet hf
            rw [← e15]
            refine lv_istore_n (lv' := [(3, .int y14), (0, .ref (g.2.1 v0)), (1, .int v1), (2, .int v2), (4, .int v4)]) hx hb dX9_sealed_47 rfl hl (by decide) rfl (fun ls hl => ?_)
            refine lv_iinc (v := (v4 + (1 : Int32))) (lv' := [(4, .int (v4 + (1 : Int32))), (3, .int y14), (0, .ref (g.2.1 v0)), (1, .int v1), (2, .int v2)]) hx hb dX9_sealed_48 hl (k := 4) rfl rfl (by decide) rfl (fun ls hl => ?_)
            refine lv_goto (tgt := 5) hx hb dX9_sealed_51 (by decide) ?_
            exact ih v0 v1 v2 y14 (v4 + (1 : Int32)) z _ _ _ hf hw (lv_sub hl [2, 3, 4, 1, 0] rfl) kx
  refine lv_iconst (v := (0 : Int32)) hx hb dX9_sealed_0 (by decide) ?_
  refine lv_istore_n (lv' := [(3, .int (0 : Int32)), (0, .ref (g.2.1 a0)), (1, .int a1), (2, .int a2)]) hx hb dX9_sealed_1 rfl hl (by decide) rfl (fun ls hl => ?_)
  refine lv_iconst (v := (0 : Int32)) hx hb dX9_sealed_2 (by decide) ?_
  refine lv_istore (lv' := [(4, .int (0 : Int32)), (3, .int (0 : Int32)), (0, .ref (g.2.1 a0)), (1, .int a1), (2, .int a2)]) hx hb dX9_sealed_3 hl (by decide) rfl (fun ls hl => ?_)
  obtain ⟨z16, e17, hf⟩ := mBind hf
  refine L5 8192 a0 a1 a2 (0 : Int32) (0 : Int32) z16 _ _ _ e17 hw (lv_sub hl [2, 3, 4, 1, 0] rfl) (fun H locs ls hw hl => ?_)
  refine lv_iload_n hx hb dX9_sealed_54 rfl (lv_at hl 0 rfl) ?_
  rw [hQm, ← Option.some.inj hf]
  exact mri hx hb hr hlk hw dX9_sealed_55
def f_X9_bits_L4 (K : mK)  (I0 : mI) (J0 : mJ) (R0 : mR) : Nat → Int32 → Int32 → Option Int32
  | 0, _, _ => none
  | N + 1, v1, v2 =>
  if v2 ≤ 0 then
  some v1
  else
  f_X9_bits_L4 K I0 J0 R0 N (v1 + (v2 &&& (1 : Int32))) (v2 >>> ((1 : Int32) &&& 31))
def f_X9_bits (K : mK) (a0 : Int32) (I0 : mI) (J0 : mJ) (R0 : mR) : Option Int32 :=
  (f_X9_bits_L4 K I0 J0 R0 8192 (0 : Int32) a0).bind fun z2 =>
  some z2
set_option maxHeartbeats 4000000 in
set_option maxRecDepth 100000 in
theorem r_X9_bits (l : Launch) (g : mG) (K : mK) (n : Nat) (hJ : mInj g n) (hO : mOk K n) (a0 : Int32) (I0 : mI) (J0 : mJ) (R0 : mR) (out : Int32) (hf : f_X9_bits K a0 I0 J0 R0 = some out) : Met l yX9_bits (mWs yX9_bits cX9_bits 3 (some .int)) ({ frames := 0, cells := 0, slots := 0, locals := 0 }) (va_Pc [.int a0] (mB g K n I0 J0 R0)) (mQ g K n (some (.int out)) I0 J0 R0) 0 0 (mA g n) := by
  unfold f_X9_bits at hf
  refine mStart RX9 hJ hO (by decide) rfl (Nat.le_of_ble_eq_true rfl) ?_
  intro p e s m below meth c ls Qm hQm B hr hlk hw hl
  have hx := B.1.1
  have hb := B.1.2.1
  have hl : lv_has ls 3 [(0, .int a0)] := hl
  have L4 : ∀ (N : Nat) (v1 : Int32) (v2 : Int32) (z : Int32) (H : Heap) (locs : List Loc) (ls : Array Slot), f_X9_bits_L4 K I0 J0 R0 N v1 v2 = some z → mHp g K n s I0 J0 R0 H locs → lv_has ls 3 [(1, .int v1), (2, .int v2)] → (∀ (H : Heap) (locs : List Loc) (ls : Array Slot), mHp g K n s I0 J0 R0 H locs → lv_has ls 3 [(1, .int z)] → W p l e ({ frames := 0, cells := 0, slots := 0, locals := 0 } : Room) s m ([.int a0] : List Value).toArray below meth c H locs 0 0 Qm (F0 m 21 ls [])) → W p l e ({ frames := 0, cells := 0, slots := 0, locals := 0 } : Room) s m ([.int a0] : List Value).toArray below meth c H locs 0 0 Qm (F0 m 4 ls []) := by
    intro N
    induction N with
    | zero =>
      intro v1 v2  z H locs ls hf hw hl kx
      rw [f_X9_bits_L4] at hf
      cases hf
    | succ N ih =>
      intro v1 v2  z H locs ls hf hw hl kx
      rw [f_X9_bits_L4] at hf
      refine lv_iload_n hx hb dX9_bits_4 rfl (lv_at hl 1 rfl) ?_
      refine lv_if_le (tgt := 21) hx hb dX9_bits_5 (by decide) (fun c1 => ?_) (fun c1 => ?_)
      · replace hf := mT1 c1 hf
        obtain rfl := Option.some.inj hf
        exact kx _ _ _ hw (lv_sub hl [0] rfl)
      · replace hf := mF1 c1 hf
        refine lv_iload_n hx hb dX9_bits_8 rfl (lv_at hl 0 rfl) ?_
        refine lv_iload_n hx hb dX9_bits_9 rfl (lv_at hl 1 rfl) ?_
        refine lv_iconst (v := (1 : Int32)) hx hb dX9_bits_10 (by decide) ?_
        refine lv_iand hx hb dX9_bits_11 ?_
        refine lv_iadd hx hb dX9_bits_12 ?_
        refine lv_istore_n (lv' := [(1, .int (v1 + (v2 &&& (1 : Int32)))), (2, .int v2)]) hx hb dX9_bits_13 rfl hl (by decide) rfl (fun ls hl => ?_)
        refine lv_iload_n hx hb dX9_bits_14 rfl (lv_at hl 1 rfl) ?_
        refine lv_iconst (v := (1 : Int32)) hx hb dX9_bits_15 (by decide) ?_
        refine lv_ishr hx hb dX9_bits_16 ?_
        refine lv_istore_n (lv' := [(2, .int (v2 >>> ((1 : Int32) &&& 31))), (1, .int (v1 + (v2 &&& (1 : Int32))))]) hx hb dX9_bits_17 rfl hl (by decide) rfl (fun ls hl => ?_)
        refine lv_goto (tgt := 4) hx hb dX9_bits_18 (by decide) ?_
        exact ih (v1 + (v2 &&& (1 : Int32))) (v2 >>> ((1 : Int32) &&& 31)) z _ _ _ hf hw (lv_sub hl [1, 0] rfl) kx
  refine lv_iconst (v := (0 : Int32)) hx hb dX9_bits_0 (by decide) ?_
  refine lv_istore_n (lv' := [(1, .int (0 : Int32)), (0, .int a0)]) hx hb dX9_bits_1 rfl hl (by decide) rfl (fun ls hl => ?_)
  refine lv_iload_n hx hb dX9_bits_2 rfl (lv_at hl 1 rfl) ?_
  refine lv_istore_n (lv' := [(2, .int a0), (1, .int (0 : Int32)), (0, .int a0)]) hx hb dX9_bits_3 rfl hl (by decide) rfl (fun ls hl => ?_)
  obtain ⟨z2, e3, hf⟩ := mBind hf
  refine L4 8192 (0 : Int32) a0 z2 _ _ _ e3 hw (lv_sub hl [1, 0] rfl) (fun H locs ls hw hl => ?_)
  refine lv_iload_n hx hb dX9_bits_21 rfl (lv_at hl 0 rfl) ?_
  rw [hQm, ← Option.some.inj hf]
  exact mri hx hb hr hlk hw dX9_bits_22
def f_X9_seal (K : mK) (a0 : Nat) (a1 : Int32) (a2 : Int32) (a3 : Int32) (I0 : mI) (J0 : mJ) (R0 : mR) : Option (Int32 × mI) :=
  if K a0 = (0, 9) then
  (f_X9_isPair K a0 a1 a2 I0 J0 R0).bind fun z2 =>
  if (mb z2) = 0 then
  some ((-1 : Int32), I0)
  else
  (f_X9_isIn K a3 (0 : Int32) (9 : Int32) I0 J0 R0).bind fun z5 =>
  if (mb z5) = 0 then
  some ((-1 : Int32), I0)
  else
  (R0 a0 5).bind fun x8 =>
  if mIx K x8 1 a1 then
  (f_X9_sealed K a0 (I0 x8 (a1).toNatClampNeg) a2 I0 J0 R0).bind fun z11 =>
  if ((z11 >>> (a3 &&& 31)) &&& (1 : Int32)) = (1 : Int32) then
  some ((-2 : Int32), I0)
  else
  if (I0 a0 10) = (60 : Int32) then
  some ((-3 : Int32), I0)
  else
  (R0 a0 11).bind fun x15 =>
  if mIx K x15 1 (I0 a0 10) then
  (some (mup I0 x15 ((I0 a0 10)).toNatClampNeg (I0 x8 (a1).toNatClampNeg))).bind fun I18 =>
  (R0 a0 12).bind fun x20 =>
  if mIx K x20 1 (I18 a0 10) then
  (some (mup I18 x20 ((I18 a0 10)).toNatClampNeg a2)).bind fun I23 =>
  (R0 a0 13).bind fun x25 =>
  if mIx K x25 1 (I23 a0 10) then
  (some (mup I23 x25 ((I23 a0 10)).toNatClampNeg a3)).bind fun I28 =>
  (some (mup I28 a0 10 ((I28 a0 10) + (1 : Int32)))).bind fun I30 =>
  (f_X9_sealed K a0 (I0 x8 (a1).toNatClampNeg) a2 I30 J0 R0).bind fun z32 =>
  (f_X9_bits K z32 I30 J0 R0).bind fun z34 =>
  some (z34, I30)
  else none
  else none
  else none
  else none
  else none
set_option maxHeartbeats 4000000 in
set_option maxRecDepth 100000 in
theorem r_X9_seal (l : Launch) (g : mG) (K : mK) (n : Nat) (hJ : mInj g n) (hO : mOk K n) (a0 : Nat) (a1 : Int32) (a2 : Int32) (a3 : Int32) (I0 : mI) (J0 : mJ) (R0 : mR) (out : (Int32 × mI)) (hf : f_X9_seal K a0 a1 a2 a3 I0 J0 R0 = some out) : Met l yX9_seal (mWs yX9_seal cX9_seal 5 (some .int)) ({ frames := 3, cells := 0, slots := 0, locals := 66 }) (va_Pc [.ref (g.2.1 a0), .int a1, .int a2, .int a3] (mB g K n I0 J0 R0)) (mQ g K n (some (.int out.1)) out.2 J0 R0) 0 0 (mA g n) := by
  unfold f_X9_seal at hf
  refine mStart RX9 hJ hO (by decide) rfl (Nat.le_of_ble_eq_true rfl) ?_
  intro p e s m below meth c ls Qm hQm B hr hlk hw hl
  have hx := B.1.1
  have hb := B.1.2.1
  have hl : lv_has ls 5 [(0, .ref (g.2.1 a0)), (1, .int a1), (2, .int a2), (3, .int a3)] := hl
  refine lv_aload_n hx hb dX9_seal_0 rfl (lv_at hl 0 rfl) ?_
  refine lv_iload_n hx hb dX9_seal_1 rfl (lv_at hl 1 rfl) ?_
  refine lv_iload_n hx hb dX9_seal_2 rfl (lv_at hl 2 rfl) ?_
  obtain ⟨h1, hf⟩ := mChk hf
  obtain ⟨z2, e3, hf⟩ := mBind hf
  refine mcallV (rest := []) (ci := 9) B hw [.int a1, .int a2] clX9_115 rfl h1 (r_X9_isPair l g K n hJ hO a0 a1 a2 I0 J0 R0 z2 e3) ⟨rfl, rfl, Nat.le_of_ble_eq_true rfl, Nat.le_of_ble_eq_true rfl⟩ rfl hl.1 (Nat.le_of_ble_eq_true rfl) ⟨Nat.zero_le _, Nat.zero_le _⟩ dX9_seal_3 (fun H locs hw => ?_)
  refine W.eq (g2 := F0 m 6 ls [.int (mb z2)]) rfl ?_
  refine lv_if_eq (tgt := 19) hx hb dX9_seal_6 (by decide) (fun c4 => ?_) (fun c4 => ?_)
  · replace hf := mT1 c4 hf
    refine lv_iconst (v := (-1 : Int32)) hx hb dX9_seal_19 (by decide) ?_
    rw [hQm, ← Option.some.inj hf]
    exact mri hx hb hr hlk hw dX9_seal_20
  · replace hf := mF1 c4 hf
    refine lv_iload_n hx hb dX9_seal_9 rfl (lv_at hl 3 rfl) ?_
    refine lv_iconst (v := (0 : Int32)) hx hb dX9_seal_10 (by decide) ?_
    refine lv_bipush (v := (9 : Int32)) hx hb dX9_seal_11 (by decide) ?_
    obtain ⟨z5, e6, hf⟩ := mBind hf
    refine mcallS (rest := []) B hw [.int a3, .int (0 : Int32), .int (9 : Int32)] clX9_64 (r_X9_isIn l g K n hJ hO a3 (0 : Int32) (9 : Int32) I0 J0 R0 z5 e6) ⟨rfl, rfl, Nat.le_of_ble_eq_true rfl, Nat.le_of_ble_eq_true rfl⟩ rfl hl.1 (Nat.le_of_ble_eq_true rfl) ⟨Nat.zero_le _, Nat.zero_le _⟩ dX9_seal_13 (fun H locs hw => ?_)
    refine W.eq (g2 := F0 m 16 ls [.int (mb z5)]) rfl ?_
    refine lv_if_ne (tgt := 21) hx hb dX9_seal_16 (by decide) (fun c7 => ?_) (fun c7 => ?_)
    · replace hf := mF1 c7 hf
      refine lv_aload_n hx hb dX9_seal_21 rfl (lv_at hl 0 rfl) ?_
      obtain ⟨x8, e9, hf⟩ := mBind hf
      refine mgr B hw flX9_25 rfl h1 e9 dX9_seal_22 ?_
      refine lv_iload_n hx hb dX9_seal_25 rfl (lv_at hl 1 rfl) ?_
      obtain ⟨h10, hf⟩ := mChk hf
      refine mld1 B hw h10 dX9_seal_26 ?_
      refine lv_istore (lv' := [(4, .int (I0 x8 (a1).toNatClampNeg)), (0, .ref (g.2.1 a0)), (1, .int a1), (2, .int a2), (3, .int a3)]) hx hb dX9_seal_27 hl (by decide) rfl (fun ls hl => ?_)
      refine lv_aload_n hx hb dX9_seal_29 rfl (lv_at hl 1 rfl) ?_
      refine lv_iload hx hb dX9_seal_30 (lv_at hl 0 rfl) ?_
      refine lv_iload_n hx hb dX9_seal_32 rfl (lv_at hl 3 rfl) ?_
      obtain ⟨z11, e12, hf⟩ := mBind hf
      refine mcallV (rest := []) (ci := 9) B hw [.int (I0 x8 (a1).toNatClampNeg), .int a2] clX9_145 rfl h1 (r_X9_sealed l g K n hJ hO a0 (I0 x8 (a1).toNatClampNeg) a2 I0 J0 R0 z11 e12) ⟨rfl, rfl, Nat.le_of_ble_eq_true rfl, Nat.le_of_ble_eq_true rfl⟩ rfl hl.1 (Nat.le_of_ble_eq_true rfl) ⟨Nat.zero_le _, Nat.zero_le _⟩ dX9_seal_33 (fun H locs hw => ?_)
      refine W.eq (g2 := F0 m 36 ls [.int z11]) rfl ?_
      refine lv_iload_n hx hb dX9_seal_36 rfl (lv_at hl 4 rfl) ?_
      refine lv_ishr hx hb dX9_seal_37 ?_
      refine lv_iconst (v := (1 : Int32)) hx hb dX9_seal_38 (by decide) ?_
      refine lv_iand hx hb dX9_seal_39 ?_
      refine lv_iconst (v := (1 : Int32)) hx hb dX9_seal_40 (by decide) ?_
      refine lv_icmp_ne (tgt := 47) hx hb dX9_seal_41 (by decide) (fun c13 => ?_) (fun c13 => ?_)
      · replace hf := mF1 c13 hf
        refine lv_aload_n hx hb dX9_seal_47 rfl (lv_at hl 1 rfl) ?_
        refine mgi B hw flX9_142 rfl h1 dX9_seal_48 ?_
        refine lv_bipush (v := (60 : Int32)) hx hb dX9_seal_51 (by decide) ?_
        refine lv_icmp_ne (tgt := 59) hx hb dX9_seal_53 (by decide) (fun c14 => ?_) (fun c14 => ?_)
        · replace hf := mF1 c14 hf
          refine lv_aload_n hx hb dX9_seal_59 rfl (lv_at hl 1 rfl) ?_
          obtain ⟨x15, e16, hf⟩ := mBind hf
          refine mgr B hw flX9_41 rfl h1 e16 dX9_seal_60 ?_
          refine lv_aload_n hx hb dX9_seal_63 rfl (lv_at hl 1 rfl) ?_
          refine mgi B hw flX9_142 rfl h1 dX9_seal_64 ?_
          refine lv_iload hx hb dX9_seal_67 (lv_at hl 0 rfl) ?_
          obtain ⟨h17, hf⟩ := mChk hf
          obtain ⟨I18, e19, hf⟩ := mLet hf
          refine mst1 B hw h17 dX9_seal_69 (fun H locs hw => ?_)
          rw [← e19] at hw
          refine lv_aload_n hx hb dX9_seal_70 rfl (lv_at hl 1 rfl) ?_
          obtain ⟨x20, e21, hf⟩ := mBind hf
          refine mgr B hw flX9_44 rfl h1 e21 dX9_seal_71 ?_
          refine lv_aload_n hx hb dX9_seal_74 rfl (lv_at hl 1 rfl) ?_
          refine mgi B hw flX9_142 rfl h1 dX9_seal_75 ?_
          refine lv_iload_n hx hb dX9_seal_78 rfl (lv_at hl 3 rfl) ?_
          obtain ⟨h22, hf⟩ := mChk hf
          obtain ⟨I23, e24, hf⟩ := mLet hf
          refine mst1 B hw h22 dX9_seal_79 (fun H locs hw => ?_)
          rw [← e24] at hw
          refine lv_aload_n hx hb dX9_seal_80 rfl (lv_at hl 1 rfl) ?_
          obtain ⟨x25, e26, hf⟩ := mBind hf
          refine mgr B hw flX9_47 rfl h1 e26 dX9_seal_81 ?_
          refine lv_aload_n hx hb dX9_seal_84 rfl (lv_at hl 1 rfl) ?_
          refine mgi B hw flX9_142 rfl h1 dX9_seal_85 ?_
          refine lv_iload_n hx hb dX9_seal_88 rfl (lv_at hl 4 rfl) ?_
          obtain ⟨h27, hf⟩ := mChk hf
          obtain ⟨I28, e29, hf⟩ := mLet hf
          refine mst1 B hw h27 dX9_seal_89 (fun H locs hw => ?_)
          rw [← e29] at hw
          refine lv_aload_n hx hb dX9_seal_90 rfl (lv_at hl 1 rfl) ?_
          refine lv_dup hx hb dX9_seal_91 rfl ?_
          refine mgi B hw flX9_142 rfl h1 dX9_seal_92 ?_
          refine lv_iconst (v := (1 : Int32)) hx hb dX9_seal_95 (by decide) ?_
          refine lv_iadd hx hb dX9_seal_96 ?_
          obtain ⟨I30, e31, hf⟩ := mLet hf
          refine mpi B hw puX9_142 rfl h1 dX9_seal_97 (fun H locs hw => ?_)
          rw [← e31] at hw
          refine lv_aload_n hx hb dX9_seal_100 rfl (lv_at hl 1 rfl) ?_
          refine lv_iload hx hb dX9_seal_101 (lv_at hl 0 rfl) ?_
          refine lv_iload_n hx hb dX9_seal_103 rfl (lv_at hl 3 rfl) ?_
          obtain ⟨z32, e33, hf⟩ := mBind hf
          refine mcallV (rest := []) (ci := 9) B hw [.int (I0 x8 (a1).toNatClampNeg), .int a2] clX9_145 rfl h1 (r_X9_sealed l g K n hJ hO a0 (I0 x8 (a1).toNatClampNeg) a2 I30 J0 R0 z32 e33) ⟨rfl, rfl, Nat.le_of_ble_eq_true rfl, Nat.le_of_ble_eq_true rfl⟩ rfl hl.1 (Nat.le_of_ble_eq_true rfl) ⟨Nat.zero_le _, Nat.zero_le _⟩ dX9_seal_104 (fun H locs hw => ?_)
          refine W.eq (g2 := F0 m 107 ls [.int z32]) rfl ?_
          obtain ⟨z34, e35, hf⟩ := mBind hf
          refine mcallS (rest := []) B hw [.int z32] clX9_148 (r_X9_bits l g K n hJ hO z32 I30 J0 R0 z34 e35) ⟨rfl, rfl, Nat.le_of_ble_eq_true rfl, Nat.le_of_ble_eq_true rfl⟩ rfl hl.1 (Nat.le_of_ble_eq_true rfl) ⟨Nat.zero_le _, Nat.zero_le _⟩ dX9_seal_107 (fun H locs hw => ?_)
          refine W.eq (g2 := F0 m 110 ls [.int z34]) rfl ?_
          rw [hQm, ← Option.some.inj hf]
          exact mri hx hb hr hlk hw dX9_seal_110
        · replace hf := mT1 c14 hf
          refine lv_bipush (v := (-3 : Int32)) hx hb dX9_seal_56 (by decide) ?_
          rw [hQm, ← Option.some.inj hf]
          exact mri hx hb hr hlk hw dX9_seal_58
      · replace hf := mT1 c13 hf
        refine lv_bipush (v := (-2 : Int32)) hx hb dX9_seal_44 (by decide) ?_
        rw [hQm, ← Option.some.inj hf]
        exact mri hx hb hr hlk hw dX9_seal_46
    · replace hf := mT1 c7 hf
      refine lv_iconst (v := (-1 : Int32)) hx hb dX9_seal_19 (by decide) ?_
      rw [hQm, ← Option.some.inj hf]
      exact mri hx hb hr hlk hw dX9_seal_20
def f_X9_give (K : mK) (a0 : Nat) (a1 : Int32) (I0 : mI) (J0 : mJ) (R0 : mR) : Option (Int32 × mI) :=
  if K a0 = (0, 9) then
  (f_X9_isFile K a0 (1 : Int32) a1 I0 J0 R0).bind fun z2 =>
  if (mb z2) = 0 then
  some ((-2 : Int32), I0)
  else
  (R0 a0 6).bind fun x5 =>
  (R0 a0 5).bind fun x7 =>
  if mIx K x7 1 a1 then
  if mIx K x5 1 (I0 x7 (a1).toNatClampNeg) then
  if (I0 x5 ((I0 x7 (a1).toNatClampNeg)).toNatClampNeg) = (-1 : Int32) then
  (f_X9_shares K a0 I0 J0 R0).bind fun z12 =>
  (R0 a0 9).bind fun x14 =>
  if mIx K x14 1 (I0 x7 (a1).toNatClampNeg) then
  if (z12 x14 ((I0 x7 (a1).toNatClampNeg)).toNatClampNeg) = (-1 : Int32) then
  some ((-3 : Int32), z12)
  else
  (R0 a0 7).bind fun x18 =>
  if mIx K x18 1 (((12 : Int32) * (I0 x7 (a1).toNatClampNeg)) + (z12 x14 ((I0 x7 (a1).toNatClampNeg)).toNatClampNeg)) then
  (R0 a0 14).bind fun x21 =>
  if mIx K x21 1 (18 : Int32) then
  if (z12 x21 ((18 : Int32)).toNatClampNeg) ≤ (z12 x18 ((((12 : Int32) * (I0 x7 (a1).toNatClampNeg)) + (z12 x14 ((I0 x7 (a1).toNatClampNeg)).toNatClampNeg))).toNatClampNeg) then
  (f_X9_marginOf K a0 (I0 x7 (a1).toNatClampNeg) z12 J0 R0).bind fun z25 =>
  if mIx K x21 1 (19 : Int32) then
  if (z25.2 x21 ((19 : Int32)).toNatClampNeg) ≤ z25.1 then
  (f_X9_sealed K a0 (I0 x7 (a1).toNatClampNeg) (z12 x14 ((I0 x7 (a1).toNatClampNeg)).toNatClampNeg) z25.2 J0 R0).bind fun z29 =>
  (f_X9_bits K z29 z25.2 J0 R0).bind fun z31 =>
  if mIx K x21 1 (20 : Int32) then
  if (z25.2 x21 ((20 : Int32)).toNatClampNeg) ≤ z31 then
  (some (mup z25.2 x5 ((I0 x7 (a1).toNatClampNeg)).toNatClampNeg (z12 x14 ((I0 x7 (a1).toNatClampNeg)).toNatClampNeg))).bind fun I35 =>
  some ((z12 x14 ((I0 x7 (a1).toNatClampNeg)).toNatClampNeg), I35)
  else
  some ((-6 : Int32), z25.2)
  else none
  else
  some ((-5 : Int32), z25.2)
  else none
  else
  some ((-4 : Int32), z12)
  else none
  else none
  else none
  else
  some ((-2 : Int32), I0)
  else none
  else none
  else none
set_option maxHeartbeats 4000000 in
set_option maxRecDepth 100000 in
theorem r_X9_give (l : Launch) (g : mG) (K : mK) (n : Nat) (hJ : mInj g n) (hO : mOk K n) (a0 : Nat) (a1 : Int32) (I0 : mI) (J0 : mJ) (R0 : mR) (out : (Int32 × mI)) (hf : f_X9_give K a0 a1 I0 J0 R0 = some out) : Met l yX9_give (mWs yX9_give cX9_give 4 (some .int)) ({ frames := 6, cells := 0, slots := 0, locals := 142 }) (va_Pc [.ref (g.2.1 a0), .int a1] (mB g K n I0 J0 R0)) (mQ g K n (some (.int out.1)) out.2 J0 R0) 0 0 (mA g n) := by
  unfold f_X9_give at hf
  refine mStart RX9 hJ hO (by decide) rfl (Nat.le_of_ble_eq_true rfl) ?_
  intro p e s m below meth c ls Qm hQm B hr hlk hw hl
  have hx := B.1.1
  have hb := B.1.2.1
  have hl : lv_has ls 4 [(0, .ref (g.2.1 a0)), (1, .int a1)] := hl
  refine lv_aload_n hx hb dX9_give_0 rfl (lv_at hl 0 rfl) ?_
  refine lv_iconst (v := (1 : Int32)) hx hb dX9_give_1 (by decide) ?_
  refine lv_iload_n hx hb dX9_give_2 rfl (lv_at hl 1 rfl) ?_
  obtain ⟨h1, hf⟩ := mChk hf
  obtain ⟨z2, e3, hf⟩ := mBind hf
  refine mcallV (rest := []) (ci := 9) B hw [.int (1 : Int32), .int a1] clX9_68 rfl h1 (r_X9_isFile l g K n hJ hO a0 (1 : Int32) a1 I0 J0 R0 z2 e3) ⟨rfl, rfl, Nat.le_of_ble_eq_true rfl, Nat.le_of_ble_eq_true rfl⟩ rfl hl.1 (Nat.le_of_ble_eq_true rfl) ⟨Nat.zero_le _, Nat.zero_le _⟩ dX9_give_3 (fun H locs hw => ?_)
  refine W.eq (g2 := F0 m 6 ls [.int (mb z2)]) rfl ?_
  refine lv_if_eq (tgt := 24) hx hb dX9_give_6 (by decide) (fun c4 => ?_) (fun c4 => ?_)
  · replace hf := mT1 c4 hf
    refine lv_bipush (v := (-2 : Int32)) hx hb dX9_give_24 (by decide) ?_
    rw [hQm, ← Option.some.inj hf]
    exact mri hx hb hr hlk hw dX9_give_26
  · replace hf := mF1 c4 hf
    refine lv_aload_n hx hb dX9_give_9 rfl (lv_at hl 0 rfl) ?_
    obtain ⟨x5, e6, hf⟩ := mBind hf
    refine mgr B hw flX9_28 rfl h1 e6 dX9_give_10 ?_
    refine lv_aload_n hx hb dX9_give_13 rfl (lv_at hl 0 rfl) ?_
    obtain ⟨x7, e8, hf⟩ := mBind hf
    refine mgr B hw flX9_25 rfl h1 e8 dX9_give_14 ?_
    refine lv_iload_n hx hb dX9_give_17 rfl (lv_at hl 1 rfl) ?_
    obtain ⟨h9, hf⟩ := mChk hf
    refine mld1 B hw h9 dX9_give_18 ?_
    obtain ⟨h10, hf⟩ := mChk hf
    refine mld1 B hw h10 dX9_give_19 ?_
    refine lv_iconst (v := (-1 : Int32)) hx hb dX9_give_20 (by decide) ?_
    refine lv_icmp_eq (tgt := 27) hx hb dX9_give_21 (by decide) (fun c11 => ?_) (fun c11 => ?_)
    · replace hf := mT1 c11 hf
      refine lv_aload_n hx hb dX9_give_27 rfl (lv_at hl 0 rfl) ?_
      refine mgr B hw flX9_25 rfl h1 e8 dX9_give_28 ?_
      refine lv_iload_n hx hb dX9_give_31 rfl (lv_at hl 1 rfl) ?_
      refine mld1 B hw h9 dX9_give_32 ?_
      refine lv_istore_n (lv' := [(2, .int (I0 x7 (a1).toNatClampNeg)), (0, .ref (g.2.1 a0)), (1, .int a1)]) hx hb dX9_give_33 rfl hl (by decide) rfl (fun ls hl => ?_)
      refine lv_aload_n hx hb dX9_give_34 rfl (lv_at hl 1 rfl) ?_
      obtain ⟨z12, e13, hf⟩ := mBind hf
      refine mcallV (rest := []) (ci := 9) B hw [] clX9_136 rfl h1 (r_X9_shares l g K n hJ hO a0 I0 J0 R0 z12 e13) ⟨rfl, rfl, Nat.le_of_ble_eq_true rfl, Nat.le_of_ble_eq_true rfl⟩ rfl hl.1 (Nat.le_of_ble_eq_true rfl) ⟨Nat.zero_le _, Nat.zero_le _⟩ dX9_give_35 (fun H locs hw => ?_)
      refine W.eq (g2 := F0 m 38 ls []) rfl ?_
      refine lv_aload_n hx hb dX9_give_38 rfl (lv_at hl 1 rfl) ?_
      obtain ⟨x14, e15, hf⟩ := mBind hf
      refine mgr B hw flX9_38 rfl h1 e15 dX9_give_39 ?_
      refine lv_iload_n hx hb dX9_give_42 rfl (lv_at hl 0 rfl) ?_
      obtain ⟨h16, hf⟩ := mChk hf
      refine mld1 B hw h16 dX9_give_43 ?_
      refine lv_istore_n (lv' := [(3, .int (z12 x14 ((I0 x7 (a1).toNatClampNeg)).toNatClampNeg)), (2, .int (I0 x7 (a1).toNatClampNeg)), (0, .ref (g.2.1 a0)), (1, .int a1)]) hx hb dX9_give_44 rfl hl (by decide) rfl (fun ls hl => ?_)
      refine lv_iload_n hx hb dX9_give_45 rfl (lv_at hl 0 rfl) ?_
      refine lv_iconst (v := (-1 : Int32)) hx hb dX9_give_46 (by decide) ?_
      refine lv_icmp_ne (tgt := 53) hx hb dX9_give_47 (by decide) (fun c17 => ?_) (fun c17 => ?_)
      · replace hf := mF1 c17 hf
        refine lv_aload_n hx hb dX9_give_53 rfl (lv_at hl 2 rfl) ?_
        obtain ⟨x18, e19, hf⟩ := mBind hf
        refine mgr B hw flX9_31 rfl h1 e19 dX9_give_54 ?_
        refine lv_bipush (v := (12 : Int32)) hx hb dX9_give_57 (by decide) ?_
        refine lv_iload_n hx hb dX9_give_59 rfl (lv_at hl 1 rfl) ?_
        refine lv_imul hx hb dX9_give_60 ?_
        refine lv_iload_n hx hb dX9_give_61 rfl (lv_at hl 0 rfl) ?_
        refine lv_iadd hx hb dX9_give_62 ?_
        obtain ⟨h20, hf⟩ := mChk hf
        refine mld1 B hw h20 dX9_give_63 ?_
        refine lv_aload_n hx hb dX9_give_64 rfl (lv_at hl 2 rfl) ?_
        obtain ⟨x21, e22, hf⟩ := mBind hf
        refine mgr B hw flX9_50 rfl h1 e22 dX9_give_65 ?_
        refine lv_bipush (v := (18 : Int32)) hx hb dX9_give_68 (by decide) ?_
        obtain ⟨h23, hf⟩ := mChk hf
        refine mld1 B hw h23 dX9_give_70 ?_
        refine lv_icmp_ge (tgt := 77) hx hb dX9_give_71 (by decide) (fun c24 => ?_) (fun c24 => ?_)
        · replace hf := mT1 c24 hf
          refine lv_aload_n hx hb dX9_give_77 rfl (lv_at hl 2 rfl) ?_
          refine lv_iload_n hx hb dX9_give_78 rfl (lv_at hl 1 rfl) ?_
          obtain ⟨z25, e26, hf⟩ := mBind hf
          refine mcallV (rest := []) (ci := 9) B hw [.int (I0 x7 (a1).toNatClampNeg)] clX9_139 rfl h1 (r_X9_marginOf l g K n hJ hO a0 (I0 x7 (a1).toNatClampNeg) z12 J0 R0 z25 e26) ⟨rfl, rfl, Nat.le_of_ble_eq_true rfl, Nat.le_of_ble_eq_true rfl⟩ rfl hl.1 (Nat.le_of_ble_eq_true rfl) ⟨Nat.zero_le _, Nat.zero_le _⟩ dX9_give_79 (fun H locs hw => ?_)
          refine W.eq (g2 := F0 m 82 ls [.int z25.1]) rfl ?_
          refine lv_aload_n hx hb dX9_give_82 rfl (lv_at hl 2 rfl) ?_
          refine mgr B hw flX9_50 rfl h1 e22 dX9_give_83 ?_
          refine lv_bipush (v := (19 : Int32)) hx hb dX9_give_86 (by decide) ?_
          obtain ⟨h27, hf⟩ := mChk hf
          refine mld1 B hw h27 dX9_give_88 ?_
          refine lv_icmp_ge (tgt := 95) hx hb dX9_give_89 (by decide) (fun c28 => ?_) (fun c28 => ?_)
          · replace hf := mT1 c28 hf
            refine lv_aload_n hx hb dX9_give_95 rfl (lv_at hl 2 rfl) ?_
            refine lv_iload_n hx hb dX9_give_96 rfl (lv_at hl 1 rfl) ?_
            refine lv_iload_n hx hb dX9_give_97 rfl (lv_at hl 0 rfl) ?_
            obtain ⟨z29, e30, hf⟩ := mBind hf
            refine mcallV (rest := []) (ci := 9) B hw [.int (I0 x7 (a1).toNatClampNeg), .int (z12 x14 ((I0 x7 (a1).toNatClampNeg)).toNatClampNeg)] clX9_145 rfl h1 (r_X9_sealed l g K n hJ hO a0 (I0 x7 (a1).toNatClampNeg) (z12 x14 ((I0 x7 (a1).toNatClampNeg)).toNatClampNeg) z25.2 J0 R0 z29 e30) ⟨rfl, rfl, Nat.le_of_ble_eq_true rfl, Nat.le_of_ble_eq_true rfl⟩ rfl hl.1 (Nat.le_of_ble_eq_true rfl) ⟨Nat.zero_le _, Nat.zero_le _⟩ dX9_give_98 (fun H locs hw => ?_)
            refine W.eq (g2 := F0 m 101 ls [.int z29]) rfl ?_
            obtain ⟨z31, e32, hf⟩ := mBind hf
            refine mcallS (rest := []) B hw [.int z29] clX9_148 (r_X9_bits l g K n hJ hO z29 z25.2 J0 R0 z31 e32) ⟨rfl, rfl, Nat.le_of_ble_eq_true rfl, Nat.le_of_ble_eq_true rfl⟩ rfl hl.1 (Nat.le_of_ble_eq_true rfl) ⟨Nat.zero_le _, Nat.zero_le _⟩ dX9_give_101 (fun H locs hw => ?_)
            refine W.eq (g2 := F0 m 104 ls [.int z31]) rfl ?_
            refine lv_aload_n hx hb dX9_give_104 rfl (lv_at hl 2 rfl) ?_
            refine mgr B hw flX9_50 rfl h1 e22 dX9_give_105 ?_
            refine lv_bipush (v := (20 : Int32)) hx hb dX9_give_108 (by decide) ?_
            obtain ⟨h33, hf⟩ := mChk hf
            refine mld1 B hw h33 dX9_give_110 ?_
            refine lv_icmp_ge (tgt := 117) hx hb dX9_give_111 (by decide) (fun c34 => ?_) (fun c34 => ?_)
            · replace hf := mT1 c34 hf
              refine lv_aload_n hx hb dX9_give_117 rfl (lv_at hl 2 rfl) ?_
              refine mgr B hw flX9_28 rfl h1 e6 dX9_give_118 ?_
              refine lv_iload_n hx hb dX9_give_121 rfl (lv_at hl 1 rfl) ?_
              refine lv_iload_n hx hb dX9_give_122 rfl (lv_at hl 0 rfl) ?_
              obtain ⟨I35, e36, hf⟩ := mLet hf
              refine mst1 B hw h10 dX9_give_123 (fun H locs hw => ?_)
              rw [← e36] at hw
              refine lv_iload_n hx hb dX9_give_124 rfl (lv_at hl 0 rfl) ?_
              rw [hQm, ← Option.some.inj hf]
              exact mri hx hb hr hlk hw dX9_give_125
            · replace hf := mF1 c34 hf
              refine lv_bipush (v := (-6 : Int32)) hx hb dX9_give_114 (by decide) ?_
              rw [hQm, ← Option.some.inj hf]
              exact mri hx hb hr hlk hw dX9_give_116
          · replace hf := mF1 c28 hf
            refine lv_bipush (v := (-5 : Int32)) hx hb dX9_give_92 (by decide) ?_
            rw [hQm, ← Option.some.inj hf]
            exact mri hx hb hr hlk hw dX9_give_94
        · replace hf := mF1 c24 hf
          refine lv_bipush (v := (-4 : Int32)) hx hb dX9_give_74 (by decide) ?_
          rw [hQm, ← Option.some.inj hf]
          exact mri hx hb hr hlk hw dX9_give_76
      · replace hf := mT1 c17 hf
        refine lv_bipush (v := (-3 : Int32)) hx hb dX9_give_50 (by decide) ?_
        rw [hQm, ← Option.some.inj hf]
        exact mri hx hb hr hlk hw dX9_give_52
    · replace hf := mF1 c11 hf
      refine lv_bipush (v := (-2 : Int32)) hx hb dX9_give_24 (by decide) ?_
      rw [hQm, ← Option.some.inj hf]
      exact mri hx hb hr hlk hw dX9_give_26
def f_X9_isDoubted (K : mK) (a0 : Nat) (a1 : Int32) (I0 : mI) (J0 : mJ) (R0 : mR) : Option Bool :=
  if K a0 = (0, 9) then
  (R0 a0 6).bind fun x2 =>
  if mIx K x2 1 a1 then
  if (I0 x2 (a1).toNatClampNeg) = (-1 : Int32) then
  some false
  else
  (f_X9_shutOf K a0 a1 (I0 x2 (a1).toNatClampNeg) I0 J0 R0).bind fun z6 =>
  if z6 = 0 then
  some false
  else
  some true
  else none
  else none
set_option maxHeartbeats 4000000 in
set_option maxRecDepth 100000 in
theorem r_X9_isDoubted (l : Launch) (g : mG) (K : mK) (n : Nat) (hJ : mInj g n) (hO : mOk K n) (a0 : Nat) (a1 : Int32) (I0 : mI) (J0 : mJ) (R0 : mR) (out : Bool) (hf : f_X9_isDoubted K a0 a1 I0 J0 R0 = some out) : Met l yX9_isDoubted (mWs yX9_isDoubted cX9_isDoubted 2 (some .boolean)) ({ frames := 3, cells := 0, slots := 0, locals := 70 }) (va_Pc [.ref (g.2.1 a0), .int a1] (mB g K n I0 J0 R0)) (mQ g K n (some (.int (mb out))) I0 J0 R0) 0 0 (mA g n) := by
  unfold f_X9_isDoubted at hf
  refine mStart RX9 hJ hO (by decide) rfl (Nat.le_of_ble_eq_true rfl) ?_
  intro p e s m below meth c ls Qm hQm B hr hlk hw hl
  have hx := B.1.1
  have hb := B.1.2.1
  have hl : lv_has ls 2 [(0, .ref (g.2.1 a0)), (1, .int a1)] := hl
  refine lv_aload_n hx hb dX9_isDoubted_0 rfl (lv_at hl 0 rfl) ?_
  obtain ⟨h1, hf⟩ := mChk hf
  obtain ⟨x2, e3, hf⟩ := mBind hf
  refine mgr B hw flX9_28 rfl h1 e3 dX9_isDoubted_1 ?_
  refine lv_iload_n hx hb dX9_isDoubted_4 rfl (lv_at hl 1 rfl) ?_
  obtain ⟨h4, hf⟩ := mChk hf
  refine mld1 B hw h4 dX9_isDoubted_5 ?_
  refine lv_iconst (v := (-1 : Int32)) hx hb dX9_isDoubted_6 (by decide) ?_
  refine lv_icmp_eq (tgt := 28) hx hb dX9_isDoubted_7 (by decide) (fun c5 => ?_) (fun c5 => ?_)
  · replace hf := mT1 c5 hf
    refine lv_iconst (v := (0 : Int32)) hx hb dX9_isDoubted_28 (by decide) ?_
    rw [hQm, ← Option.some.inj hf]
    exact mrz (v := false) hx hb hr hlk hw dX9_isDoubted_29
  · replace hf := mF1 c5 hf
    refine lv_aload_n hx hb dX9_isDoubted_10 rfl (lv_at hl 0 rfl) ?_
    refine lv_iload_n hx hb dX9_isDoubted_11 rfl (lv_at hl 1 rfl) ?_
    refine lv_aload_n hx hb dX9_isDoubted_12 rfl (lv_at hl 0 rfl) ?_
    refine mgr B hw flX9_28 rfl h1 e3 dX9_isDoubted_13 ?_
    refine lv_iload_n hx hb dX9_isDoubted_16 rfl (lv_at hl 1 rfl) ?_
    refine mld1 B hw h4 dX9_isDoubted_17 ?_
    obtain ⟨z6, e7, hf⟩ := mBind hf
    refine mcallV (rest := []) (ci := 9) B hw [.int a1, .int (I0 x2 (a1).toNatClampNeg)] clX9_118 rfl h1 (r_X9_shutOf l g K n hJ hO a0 a1 (I0 x2 (a1).toNatClampNeg) I0 J0 R0 z6 e7) ⟨rfl, rfl, Nat.le_of_ble_eq_true rfl, Nat.le_of_ble_eq_true rfl⟩ rfl hl.1 (Nat.le_of_ble_eq_true rfl) ⟨Nat.zero_le _, Nat.zero_le _⟩ dX9_isDoubted_18 (fun H locs hw => ?_)
    refine W.eq (g2 := F0 m 21 ls [.int z6]) rfl ?_
    refine lv_if_eq (tgt := 28) hx hb dX9_isDoubted_21 (by decide) (fun c8 => ?_) (fun c8 => ?_)
    · replace hf := mT1 c8 hf
      refine lv_iconst (v := (0 : Int32)) hx hb dX9_isDoubted_28 (by decide) ?_
      rw [hQm, ← Option.some.inj hf]
      exact mrz (v := false) hx hb hr hlk hw dX9_isDoubted_29
    · replace hf := mF1 c8 hf
      refine lv_iconst (v := (1 : Int32)) hx hb dX9_isDoubted_24 (by decide) ?_
      refine lv_goto (tgt := 29) hx hb dX9_isDoubted_25 (by decide) ?_
      rw [hQm, ← Option.some.inj hf]
      exact mrz (v := true) hx hb hr hlk hw dX9_isDoubted_29
def f_X9_named (K : mK) (a0 : Nat) (a1 : Int32) (a2 : Int32) (I0 : mI) (J0 : mJ) (R0 : mR) : Option Int32 :=
  if K a0 = (0, 9) then
  (f_X9_isFile K a0 (1 : Int32) a1 I0 J0 R0).bind fun z2 =>
  if (mb z2) = 0 then
  some (-1 : Int32)
  else
  if a2 = 0 then
  (R0 a0 6).bind fun x14 =>
  (R0 a0 5).bind fun x16 =>
  if mIx K x16 1 a1 then
  if mIx K x14 1 (I0 x16 (a1).toNatClampNeg) then
  some (I0 x14 ((I0 x16 (a1).toNatClampNeg)).toNatClampNeg)
  else none
  else none
  else
  if a2 = (1 : Int32) then
  (R0 a0 5).bind fun x7 =>
  if mIx K x7 1 a1 then
  (f_X9_isDoubted K a0 (I0 x7 (a1).toNatClampNeg) I0 J0 R0).bind fun z10 =>
  (f_X9_one K z10 I0 J0 R0).bind fun z12 =>
  some z12
  else none
  else
  some (-1 : Int32)
  else none
set_option maxHeartbeats 4000000 in
set_option maxRecDepth 100000 in
theorem r_X9_named (l : Launch) (g : mG) (K : mK) (n : Nat) (hJ : mInj g n) (hO : mOk K n) (a0 : Nat) (a1 : Int32) (a2 : Int32) (I0 : mI) (J0 : mJ) (R0 : mR) (out : Int32) (hf : f_X9_named K a0 a1 a2 I0 J0 R0 = some out) : Met l yX9_named (mWs yX9_named cX9_named 3 (some .int)) ({ frames := 4, cells := 0, slots := 0, locals := 91 }) (va_Pc [.ref (g.2.1 a0), .int a1, .int a2] (mB g K n I0 J0 R0)) (mQ g K n (some (.int out)) I0 J0 R0) 0 0 (mA g n) := by
  unfold f_X9_named at hf
  refine mStart RX9 hJ hO (by decide) rfl (Nat.le_of_ble_eq_true rfl) ?_
  intro p e s m below meth c ls Qm hQm B hr hlk hw hl
  have hx := B.1.1
  have hb := B.1.2.1
  have hl : lv_has ls 3 [(0, .ref (g.2.1 a0)), (1, .int a1), (2, .int a2)] := hl
  refine lv_aload_n hx hb dX9_named_0 rfl (lv_at hl 0 rfl) ?_
  refine lv_iconst (v := (1 : Int32)) hx hb dX9_named_1 (by decide) ?_
  refine lv_iload_n hx hb dX9_named_2 rfl (lv_at hl 1 rfl) ?_
  obtain ⟨h1, hf⟩ := mChk hf
  obtain ⟨z2, e3, hf⟩ := mBind hf
  refine mcallV (rest := []) (ci := 9) B hw [.int (1 : Int32), .int a1] clX9_68 rfl h1 (r_X9_isFile l g K n hJ hO a0 (1 : Int32) a1 I0 J0 R0 z2 e3) ⟨rfl, rfl, Nat.le_of_ble_eq_true rfl, Nat.le_of_ble_eq_true rfl⟩ rfl hl.1 (Nat.le_of_ble_eq_true rfl) ⟨Nat.zero_le _, Nat.zero_le _⟩ dX9_named_3 (fun H locs hw => ?_)
  refine W.eq (g2 := F0 m 6 ls [.int (mb z2)]) rfl ?_
  refine lv_if_ne (tgt := 13) hx hb dX9_named_6 (by decide) (fun c4 => ?_) (fun c4 => ?_)
  · replace hf := mF1 c4 hf
    refine lv_iload_n hx hb dX9_named_13 rfl (lv_at hl 2 rfl) ?_
    refine lv_if_ne (tgt := 31) hx hb dX9_named_14 (by decide) (fun c5 => ?_) (fun c5 => ?_)
    · replace hf := mF1 c5 hf
      refine lv_iload_n hx hb dX9_named_31 rfl (lv_at hl 2 rfl) ?_
      refine lv_iconst (v := (1 : Int32)) hx hb dX9_named_32 (by decide) ?_
      refine lv_icmp_ne (tgt := 52) hx hb dX9_named_33 (by decide) (fun c6 => ?_) (fun c6 => ?_)
      · replace hf := mF1 c6 hf
        refine lv_iconst (v := (-1 : Int32)) hx hb dX9_named_52 (by decide) ?_
        rw [hQm, ← Option.some.inj hf]
        exact mri hx hb hr hlk hw dX9_named_53
      · replace hf := mT1 c6 hf
        refine lv_aload_n hx hb dX9_named_36 rfl (lv_at hl 0 rfl) ?_
        refine lv_aload_n hx hb dX9_named_37 rfl (lv_at hl 0 rfl) ?_
        obtain ⟨x7, e8, hf⟩ := mBind hf
        refine mgr B hw flX9_25 rfl h1 e8 dX9_named_38 ?_
        refine lv_iload_n hx hb dX9_named_41 rfl (lv_at hl 1 rfl) ?_
        obtain ⟨h9, hf⟩ := mChk hf
        refine mld1 B hw h9 dX9_named_42 ?_
        obtain ⟨z10, e11, hf⟩ := mBind hf
        refine mcallV (rest := []) (ci := 9) B hw [.int (I0 x7 (a1).toNatClampNeg)] clX9_151 rfl h1 (r_X9_isDoubted l g K n hJ hO a0 (I0 x7 (a1).toNatClampNeg) I0 J0 R0 z10 e11) ⟨rfl, rfl, Nat.le_of_ble_eq_true rfl, Nat.le_of_ble_eq_true rfl⟩ rfl hl.1 (Nat.le_of_ble_eq_true rfl) ⟨Nat.zero_le _, Nat.zero_le _⟩ dX9_named_43 (fun H locs hw => ?_)
        refine W.eq (g2 := F0 m 46 ls [.int (mb z10)]) rfl ?_
        obtain ⟨z12, e13, hf⟩ := mBind hf
        refine mcallS (rest := []) B hw [.int (mb z10)] clX9_102 (r_X9_one l g K n hJ hO z10 I0 J0 R0 z12 e13) ⟨rfl, rfl, Nat.le_of_ble_eq_true rfl, Nat.le_of_ble_eq_true rfl⟩ rfl hl.1 (Nat.le_of_ble_eq_true rfl) ⟨Nat.zero_le _, Nat.zero_le _⟩ dX9_named_46 (fun H locs hw => ?_)
        refine W.eq (g2 := F0 m 49 ls [.int z12]) rfl ?_
        refine lv_goto (tgt := 53) hx hb dX9_named_49 (by decide) ?_
        rw [hQm, ← Option.some.inj hf]
        exact mri hx hb hr hlk hw dX9_named_53
    · replace hf := mT1 c5 hf
      refine lv_aload_n hx hb dX9_named_17 rfl (lv_at hl 0 rfl) ?_
      obtain ⟨x14, e15, hf⟩ := mBind hf
      refine mgr B hw flX9_28 rfl h1 e15 dX9_named_18 ?_
      refine lv_aload_n hx hb dX9_named_21 rfl (lv_at hl 0 rfl) ?_
      obtain ⟨x16, e17, hf⟩ := mBind hf
      refine mgr B hw flX9_25 rfl h1 e17 dX9_named_22 ?_
      refine lv_iload_n hx hb dX9_named_25 rfl (lv_at hl 1 rfl) ?_
      obtain ⟨h18, hf⟩ := mChk hf
      refine mld1 B hw h18 dX9_named_26 ?_
      obtain ⟨h19, hf⟩ := mChk hf
      refine mld1 B hw h19 dX9_named_27 ?_
      refine lv_goto (tgt := 53) hx hb dX9_named_28 (by decide) ?_
      rw [hQm, ← Option.some.inj hf]
      exact mri hx hb hr hlk hw dX9_named_53
  · replace hf := mT1 c4 hf
    refine lv_iconst (v := (-1 : Int32)) hx hb dX9_named_9 (by decide) ?_
    refine lv_goto (tgt := 53) hx hb dX9_named_10 (by decide) ?_
    rw [hQm, ← Option.some.inj hf]
    exact mri hx hb hr hlk hw dX9_named_53
def f_X9_unname (K : mK) (a0 : Nat) (a1 : Int32) (I0 : mI) (J0 : mJ) (R0 : mR) : Option (Bool × mI) :=
  if K a0 = (0, 9) then
  (f_X9_isFile K a0 (1 : Int32) a1 I0 J0 R0).bind fun z2 =>
  if (mb z2) = 0 then
  some (false, I0)
  else
  (R0 a0 5).bind fun x5 =>
  if mIx K x5 1 a1 then
  (f_X9_isDoubted K a0 (I0 x5 (a1).toNatClampNeg) I0 J0 R0).bind fun z8 =>
  if (mb z8) = 0 then
  some (false, I0)
  else
  (R0 a0 6).bind fun x11 =>
  if mIx K x11 1 (I0 x5 (a1).toNatClampNeg) then
  (some (mup I0 x11 ((I0 x5 (a1).toNatClampNeg)).toNatClampNeg (-1 : Int32))).bind fun I14 =>
  some (true, I14)
  else none
  else none
  else none
set_option maxHeartbeats 4000000 in
set_option maxRecDepth 100000 in
theorem r_X9_unname (l : Launch) (g : mG) (K : mK) (n : Nat) (hJ : mInj g n) (hO : mOk K n) (a0 : Nat) (a1 : Int32) (I0 : mI) (J0 : mJ) (R0 : mR) (out : (Bool × mI)) (hf : f_X9_unname K a0 a1 I0 J0 R0 = some out) : Met l yX9_unname (mWs yX9_unname cX9_unname 2 (some .boolean)) ({ frames := 4, cells := 0, slots := 0, locals := 91 }) (va_Pc [.ref (g.2.1 a0), .int a1] (mB g K n I0 J0 R0)) (mQ g K n (some (.int (mb out.1))) out.2 J0 R0) 0 0 (mA g n) := by
  unfold f_X9_unname at hf
  refine mStart RX9 hJ hO (by decide) rfl (Nat.le_of_ble_eq_true rfl) ?_
  intro p e s m below meth c ls Qm hQm B hr hlk hw hl
  have hx := B.1.1
  have hb := B.1.2.1
  have hl : lv_has ls 2 [(0, .ref (g.2.1 a0)), (1, .int a1)] := hl
  refine lv_aload_n hx hb dX9_unname_0 rfl (lv_at hl 0 rfl) ?_
  refine lv_iconst (v := (1 : Int32)) hx hb dX9_unname_1 (by decide) ?_
  refine lv_iload_n hx hb dX9_unname_2 rfl (lv_at hl 1 rfl) ?_
  obtain ⟨h1, hf⟩ := mChk hf
  obtain ⟨z2, e3, hf⟩ := mBind hf
  refine mcallV (rest := []) (ci := 9) B hw [.int (1 : Int32), .int a1] clX9_68 rfl h1 (r_X9_isFile l g K n hJ hO a0 (1 : Int32) a1 I0 J0 R0 z2 e3) ⟨rfl, rfl, Nat.le_of_ble_eq_true rfl, Nat.le_of_ble_eq_true rfl⟩ rfl hl.1 (Nat.le_of_ble_eq_true rfl) ⟨Nat.zero_le _, Nat.zero_le _⟩ dX9_unname_3 (fun H locs hw => ?_)
  refine W.eq (g2 := F0 m 6 ls [.int (mb z2)]) rfl ?_
  refine lv_if_eq (tgt := 22) hx hb dX9_unname_6 (by decide) (fun c4 => ?_) (fun c4 => ?_)
  · replace hf := mT1 c4 hf
    refine lv_iconst (v := (0 : Int32)) hx hb dX9_unname_22 (by decide) ?_
    rw [hQm, ← Option.some.inj hf]
    exact mrz (v := false) hx hb hr hlk hw dX9_unname_23
  · replace hf := mF1 c4 hf
    refine lv_aload_n hx hb dX9_unname_9 rfl (lv_at hl 0 rfl) ?_
    refine lv_aload_n hx hb dX9_unname_10 rfl (lv_at hl 0 rfl) ?_
    obtain ⟨x5, e6, hf⟩ := mBind hf
    refine mgr B hw flX9_25 rfl h1 e6 dX9_unname_11 ?_
    refine lv_iload_n hx hb dX9_unname_14 rfl (lv_at hl 1 rfl) ?_
    obtain ⟨h7, hf⟩ := mChk hf
    refine mld1 B hw h7 dX9_unname_15 ?_
    obtain ⟨z8, e9, hf⟩ := mBind hf
    refine mcallV (rest := []) (ci := 9) B hw [.int (I0 x5 (a1).toNatClampNeg)] clX9_151 rfl h1 (r_X9_isDoubted l g K n hJ hO a0 (I0 x5 (a1).toNatClampNeg) I0 J0 R0 z8 e9) ⟨rfl, rfl, Nat.le_of_ble_eq_true rfl, Nat.le_of_ble_eq_true rfl⟩ rfl hl.1 (Nat.le_of_ble_eq_true rfl) ⟨Nat.zero_le _, Nat.zero_le _⟩ dX9_unname_16 (fun H locs hw => ?_)
    refine W.eq (g2 := F0 m 19 ls [.int (mb z8)]) rfl ?_
    refine lv_if_ne (tgt := 24) hx hb dX9_unname_19 (by decide) (fun c10 => ?_) (fun c10 => ?_)
    · replace hf := mF1 c10 hf
      refine lv_aload_n hx hb dX9_unname_24 rfl (lv_at hl 0 rfl) ?_
      obtain ⟨x11, e12, hf⟩ := mBind hf
      refine mgr B hw flX9_28 rfl h1 e12 dX9_unname_25 ?_
      refine lv_aload_n hx hb dX9_unname_28 rfl (lv_at hl 0 rfl) ?_
      refine mgr B hw flX9_25 rfl h1 e6 dX9_unname_29 ?_
      refine lv_iload_n hx hb dX9_unname_32 rfl (lv_at hl 1 rfl) ?_
      refine mld1 B hw h7 dX9_unname_33 ?_
      refine lv_iconst (v := (-1 : Int32)) hx hb dX9_unname_34 (by decide) ?_
      obtain ⟨h13, hf⟩ := mChk hf
      obtain ⟨I14, e15, hf⟩ := mLet hf
      refine mst1 B hw h13 dX9_unname_35 (fun H locs hw => ?_)
      rw [← e15] at hw
      refine lv_iconst (v := (1 : Int32)) hx hb dX9_unname_36 (by decide) ?_
      rw [hQm, ← Option.some.inj hf]
      exact mrz (v := true) hx hb hr hlk hw dX9_unname_37
    · replace hf := mT1 c10 hf
      refine lv_iconst (v := (0 : Int32)) hx hb dX9_unname_22 (by decide) ?_
      rw [hQm, ← Option.some.inj hf]
      exact mrz (v := false) hx hb hr hlk hw dX9_unname_23
def f_X9_four_L3 (K : mK) (v0 : Nat) (v1 : Int32) (J0 : mJ) (R0 : mR) : Nat → Int32 → mI → Option mI
  | 0, _, _ => none
  | N + 1, v2, I =>
  if v2 < 0 then
  some I
  else
  if K v0 = (0, 9) then
  (R0 v0 15).bind fun x3 =>
  if mIx K x3 2 (I v0 17) then
  (some (mup I x3 ((I v0 17)).toNatClampNeg (((v1 >>> (v2 &&& 31))).toInt8.toInt32).toInt8.toInt32)).bind fun I6 =>
  (some (mup I6 v0 17 ((I6 v0 17) + (1 : Int32)))).bind fun I8 =>
  f_X9_four_L3 K v0 v1 J0 R0 N (v2 + (-8 : Int32)) I8
  else none
  else none
def f_X9_four (K : mK) (a0 : Nat) (a1 : Int32) (I0 : mI) (J0 : mJ) (R0 : mR) : Option mI :=
  (f_X9_four_L3 K a0 a1 J0 R0 8192 (24 : Int32) I0).bind fun z10 =>
  some z10
set_option maxHeartbeats 4000000 in
set_option maxRecDepth 100000 in
theorem r_X9_four (l : Launch) (g : mG) (K : mK) (n : Nat) (hJ : mInj g n) (hO : mOk K n) (a0 : Nat) (a1 : Int32) (I0 : mI) (J0 : mJ) (R0 : mR) (out : mI) (hf : f_X9_four K a0 a1 I0 J0 R0 = some out) : Met l yX9_four (mWs yX9_four cX9_four 3 none) ({ frames := 0, cells := 0, slots := 0, locals := 0 }) (va_Pc [.ref (g.2.1 a0), .int a1] (mB g K n I0 J0 R0)) (mQ g K n none out J0 R0) 0 0 (mA g n) := by
  unfold f_X9_four at hf
  refine mStart RX9 hJ hO (by decide) rfl (Nat.le_of_ble_eq_true rfl) ?_
  intro p e s m below meth c ls Qm hQm B hr hlk hw hl
  have hx := B.1.1
  have hb := B.1.2.1
  have hl : lv_has ls 3 [(0, .ref (g.2.1 a0)), (1, .int a1)] := hl
  have L3 : ∀ (N : Nat) (v0 : Nat) (v1 : Int32) (v2 : Int32) (I : mI) (z : mI) (H : Heap) (locs : List Loc) (ls : Array Slot), f_X9_four_L3 K v0 v1 J0 R0 N v2 I = some z → mHp g K n s I J0 R0 H locs → lv_has ls 3 [(0, .ref (g.2.1 v0)), (1, .int v1), (2, .int v2)] → (∀ (H : Heap) (locs : List Loc) (ls : Array Slot), mHp g K n s z J0 R0 H locs → lv_has ls 3 [] → W p l e ({ frames := 0, cells := 0, slots := 0, locals := 0 } : Room) s m ([.ref (g.2.1 a0), .int a1] : List Value).toArray below meth c H locs 0 0 Qm (F0 m 36 ls [])) → W p l e ({ frames := 0, cells := 0, slots := 0, locals := 0 } : Room) s m ([.ref (g.2.1 a0), .int a1] : List Value).toArray below meth c H locs 0 0 Qm (F0 m 3 ls []) := by
    intro N
    induction N with
    | zero =>
      intro v0 v1 v2 I z H locs ls hf hw hl kx
      rw [f_X9_four_L3] at hf
      cases hf
    | succ N ih =>
      intro v0 v1 v2 I z H locs ls hf hw hl kx
      rw [f_X9_four_L3] at hf
      refine lv_iload_n hx hb dX9_four_3 rfl (lv_at hl 2 rfl) ?_
      refine lv_if_lt (tgt := 36) hx hb dX9_four_4 (by decide) (fun c1 => ?_) (fun c1 => ?_)
      · replace hf := mT1 c1 hf
        obtain rfl := Option.some.inj hf
        exact kx _ _ _ hw (lv_sub hl [] rfl)
      · replace hf := mF1 c1 hf
        refine lv_aload_n hx hb dX9_four_7 rfl (lv_at hl 0 rfl) ?_
        obtain ⟨h2, hf⟩ := mChk hf
        obtain ⟨x3, e4, hf⟩ := mBind hf
        refine mgr B hw flX9_53 rfl h2 e4 dX9_four_8 ?_
        refine lv_aload_n hx hb dX9_four_11 rfl (lv_at hl 0 rfl) ?_
        refine mgi B hw flX9_154 rfl h2 dX9_four_12 ?_
        refine lv_iload_n hx hb dX9_four_15 rfl (lv_at hl 1 rfl) ?_
        refine lv_iload_n hx hb dX9_four_16 rfl (lv_at hl 2 rfl) ?_
        refine lv_ishr hx hb dX9_four_17 ?_
        refine lv_i2b hx hb dX9_four_18 rfl ?_
        obtain ⟨h5, hf⟩ := mChk hf
        obtain ⟨I6, e7, hf⟩ := mLet hf
        refine mst2 B hw h5 dX9_four_19 (fun H locs hw => ?_)
        rw [← e7] at hw
        refine lv_aload_n hx hb dX9_four_20 rfl (lv_at hl 0 rfl) ?_
        refine lv_dup hx hb dX9_four_21 rfl ?_
        refine mgi B hw flX9_154 rfl h2 dX9_four_22 ?_
        refine lv_iconst (v := (1 : Int32)) hx hb dX9_four_25 (by decide) ?_
        refine lv_iadd hx hb dX9_four_26 ?_
        obtain ⟨I8, e9, hf⟩ := mLet hf
        refine mpi B hw puX9_154 rfl h2 dX9_four_27 (fun H locs hw => ?_)
        rw [← e9] at hw
        refine lv_iinc (v := (v2 + (-8 : Int32))) (lv' := [(2, .int (v2 + (-8 : Int32))), (0, .ref (g.2.1 v0)), (1, .int v1)]) hx hb dX9_four_30 hl (k := 2) rfl rfl (by decide) rfl (fun ls hl => ?_)
        refine lv_goto (tgt := 3) hx hb dX9_four_33 (by decide) ?_
        exact ih v0 v1 (v2 + (-8 : Int32)) I8 z _ _ _ hf hw (lv_sub hl [1, 2, 0] rfl) kx
  refine lv_bipush (v := (24 : Int32)) hx hb dX9_four_0 (by decide) ?_
  refine lv_istore_n (lv' := [(2, .int (24 : Int32)), (0, .ref (g.2.1 a0)), (1, .int a1)]) hx hb dX9_four_2 rfl hl (by decide) rfl (fun ls hl => ?_)
  obtain ⟨z10, e11, hf⟩ := mBind hf
  refine L3 8192 a0 a1 (24 : Int32) I0 z10 _ _ _ e11 hw (lv_sub hl [1, 2, 0] rfl) (fun H locs ls hw hl => ?_)
  rw [hQm, ← Option.some.inj hf]
  exact mrv hx hb hr hlk hw dX9_four_36
def f_X9_feed (K : mK) (a0 : Nat) (a1 : Int32) (a2 : Int32) (a3 : Int32) (a4 : Int32) (a5 : Int32) (I0 : mI) (J0 : mJ) (R0 : mR) : Option (Int32 × mI) :=
  if K a0 = (0, 9) then
  if ((I0 a0 17) + (20 : Int32)) ≤ (500 : Int32) then
  (f_X9_four K a0 a1 I0 J0 R0).bind fun z3 =>
  (f_X9_four K a0 a2 z3 J0 R0).bind fun z5 =>
  (f_X9_four K a0 a3 z5 J0 R0).bind fun z7 =>
  (f_X9_four K a0 a4 z7 J0 R0).bind fun z9 =>
  (f_X9_four K a0 a5 z9 J0 R0).bind fun z11 =>
  some ((z11 a0 17), z11)
  else
  some ((-1 : Int32), I0)
  else none
set_option maxHeartbeats 4000000 in
set_option maxRecDepth 100000 in
theorem r_X9_feed (l : Launch) (g : mG) (K : mK) (n : Nat) (hJ : mInj g n) (hO : mOk K n) (a0 : Nat) (a1 : Int32) (a2 : Int32) (a3 : Int32) (a4 : Int32) (a5 : Int32) (I0 : mI) (J0 : mJ) (R0 : mR) (out : (Int32 × mI)) (hf : f_X9_feed K a0 a1 a2 a3 a4 a5 I0 J0 R0 = some out) : Met l yX9_feed (mWs yX9_feed cX9_feed 6 (some .int)) ({ frames := 1, cells := 0, slots := 0, locals := 22 }) (va_Pc [.ref (g.2.1 a0), .int a1, .int a2, .int a3, .int a4, .int a5] (mB g K n I0 J0 R0)) (mQ g K n (some (.int out.1)) out.2 J0 R0) 0 0 (mA g n) := by
  unfold f_X9_feed at hf
  refine mStart RX9 hJ hO (by decide) rfl (Nat.le_of_ble_eq_true rfl) ?_
  intro p e s m below meth c ls Qm hQm B hr hlk hw hl
  have hx := B.1.1
  have hb := B.1.2.1
  have hl : lv_has ls 6 [(0, .ref (g.2.1 a0)), (1, .int a1), (2, .int a2), (3, .int a3), (4, .int a4), (5, .int a5)] := hl
  refine lv_aload_n hx hb dX9_feed_0 rfl (lv_at hl 0 rfl) ?_
  obtain ⟨h1, hf⟩ := mChk hf
  refine mgi B hw flX9_154 rfl h1 dX9_feed_1 ?_
  refine lv_bipush (v := (20 : Int32)) hx hb dX9_feed_4 (by decide) ?_
  refine lv_iadd hx hb dX9_feed_6 ?_
  refine lv_sipush (v := (500 : Int32)) hx hb dX9_feed_7 (by decide) ?_
  refine lv_icmp_le (tgt := 15) hx hb dX9_feed_10 (by decide) (fun c2 => ?_) (fun c2 => ?_)
  · replace hf := mT1 c2 hf
    refine lv_aload_n hx hb dX9_feed_15 rfl (lv_at hl 0 rfl) ?_
    refine lv_iload_n hx hb dX9_feed_16 rfl (lv_at hl 1 rfl) ?_
    obtain ⟨z3, e4, hf⟩ := mBind hf
    refine mcallV (rest := []) (ci := 9) B hw [.int a1] clX9_157 rfl h1 (r_X9_four l g K n hJ hO a0 a1 I0 J0 R0 z3 e4) ⟨rfl, rfl, Nat.le_of_ble_eq_true rfl, Nat.le_of_ble_eq_true rfl⟩ rfl hl.1 (Nat.le_of_ble_eq_true rfl) ⟨Nat.zero_le _, Nat.zero_le _⟩ dX9_feed_17 (fun H locs hw => ?_)
    refine W.eq (g2 := F0 m 20 ls []) rfl ?_
    refine lv_aload_n hx hb dX9_feed_20 rfl (lv_at hl 0 rfl) ?_
    refine lv_iload_n hx hb dX9_feed_21 rfl (lv_at hl 2 rfl) ?_
    obtain ⟨z5, e6, hf⟩ := mBind hf
    refine mcallV (rest := []) (ci := 9) B hw [.int a2] clX9_157 rfl h1 (r_X9_four l g K n hJ hO a0 a2 z3 J0 R0 z5 e6) ⟨rfl, rfl, Nat.le_of_ble_eq_true rfl, Nat.le_of_ble_eq_true rfl⟩ rfl hl.1 (Nat.le_of_ble_eq_true rfl) ⟨Nat.zero_le _, Nat.zero_le _⟩ dX9_feed_22 (fun H locs hw => ?_)
    refine W.eq (g2 := F0 m 25 ls []) rfl ?_
    refine lv_aload_n hx hb dX9_feed_25 rfl (lv_at hl 0 rfl) ?_
    refine lv_iload_n hx hb dX9_feed_26 rfl (lv_at hl 3 rfl) ?_
    obtain ⟨z7, e8, hf⟩ := mBind hf
    refine mcallV (rest := []) (ci := 9) B hw [.int a3] clX9_157 rfl h1 (r_X9_four l g K n hJ hO a0 a3 z5 J0 R0 z7 e8) ⟨rfl, rfl, Nat.le_of_ble_eq_true rfl, Nat.le_of_ble_eq_true rfl⟩ rfl hl.1 (Nat.le_of_ble_eq_true rfl) ⟨Nat.zero_le _, Nat.zero_le _⟩ dX9_feed_27 (fun H locs hw => ?_)
    refine W.eq (g2 := F0 m 30 ls []) rfl ?_
    refine lv_aload_n hx hb dX9_feed_30 rfl (lv_at hl 0 rfl) ?_
    refine lv_iload hx hb dX9_feed_31 (lv_at hl 4 rfl) ?_
    obtain ⟨z9, e10, hf⟩ := mBind hf
    refine mcallV (rest := []) (ci := 9) B hw [.int a4] clX9_157 rfl h1 (r_X9_four l g K n hJ hO a0 a4 z7 J0 R0 z9 e10) ⟨rfl, rfl, Nat.le_of_ble_eq_true rfl, Nat.le_of_ble_eq_true rfl⟩ rfl hl.1 (Nat.le_of_ble_eq_true rfl) ⟨Nat.zero_le _, Nat.zero_le _⟩ dX9_feed_33 (fun H locs hw => ?_)
    refine W.eq (g2 := F0 m 36 ls []) rfl ?_
    refine lv_aload_n hx hb dX9_feed_36 rfl (lv_at hl 0 rfl) ?_
    refine lv_iload hx hb dX9_feed_37 (lv_at hl 5 rfl) ?_
    obtain ⟨z11, e12, hf⟩ := mBind hf
    refine mcallV (rest := []) (ci := 9) B hw [.int a5] clX9_157 rfl h1 (r_X9_four l g K n hJ hO a0 a5 z9 J0 R0 z11 e12) ⟨rfl, rfl, Nat.le_of_ble_eq_true rfl, Nat.le_of_ble_eq_true rfl⟩ rfl hl.1 (Nat.le_of_ble_eq_true rfl) ⟨Nat.zero_le _, Nat.zero_le _⟩ dX9_feed_39 (fun H locs hw => ?_)
    refine W.eq (g2 := F0 m 42 ls []) rfl ?_
    refine lv_aload_n hx hb dX9_feed_42 rfl (lv_at hl 0 rfl) ?_
    refine mgi B hw flX9_154 rfl h1 dX9_feed_43 ?_
    rw [hQm, ← Option.some.inj hf]
    exact mri hx hb hr hlk hw dX9_feed_46
  · replace hf := mF1 c2 hf
    refine lv_iconst (v := (-1 : Int32)) hx hb dX9_feed_13 (by decide) ?_
    rw [hQm, ← Option.some.inj hf]
    exact mri hx hb hr hlk hw dX9_feed_14
def f_X9_blanks_L0 (K : mK) (v0 : Nat) (J0 : mJ) (R0 : mR) : Nat → mI → Option mI
  | 0, _ => none
  | N + 1, I =>
  if K v0 = (0, 9) then
  if (I v0 18) ≤ (I v0 19) then
  some I
  else
  (R0 v0 16).bind fun x3 =>
  if mIx K x3 2 (I v0 19) then
  if (I x3 ((I v0 19)).toNatClampNeg) = (32 : Int32) then
  (some (mup I v0 19 ((I v0 19) + (1 : Int32)))).bind fun I7 =>
  f_X9_blanks_L0 K v0 J0 R0 N I7
  else
  if (I x3 ((I v0 19)).toNatClampNeg) = (10 : Int32) then
  (some (mup I v0 19 ((I v0 19) + (1 : Int32)))).bind fun I10 =>
  f_X9_blanks_L0 K v0 J0 R0 N I10
  else
  some I
  else none
  else none
def f_X9_blanks (K : mK) (a0 : Nat) (I0 : mI) (J0 : mJ) (R0 : mR) : Option mI :=
  (f_X9_blanks_L0 K a0 J0 R0 8192 I0).bind fun z12 =>
  some z12
set_option maxHeartbeats 4000000 in
set_option maxRecDepth 100000 in
theorem r_X9_blanks (l : Launch) (g : mG) (K : mK) (n : Nat) (hJ : mInj g n) (hO : mOk K n) (a0 : Nat) (I0 : mI) (J0 : mJ) (R0 : mR) (out : mI) (hf : f_X9_blanks K a0 I0 J0 R0 = some out) : Met l yX9_blanks (mWs yX9_blanks cX9_blanks 1 none) ({ frames := 0, cells := 0, slots := 0, locals := 0 }) (va_Pc [.ref (g.2.1 a0)] (mB g K n I0 J0 R0)) (mQ g K n none out J0 R0) 0 0 (mA g n) := by
  unfold f_X9_blanks at hf
  refine mStart RX9 hJ hO (by decide) rfl (Nat.le_of_ble_eq_true rfl) ?_
  intro p e s m below meth c ls Qm hQm B hr hlk hw hl
  have hx := B.1.1
  have hb := B.1.2.1
  have hl : lv_has ls 1 [(0, .ref (g.2.1 a0))] := hl
  have L0 : ∀ (N : Nat) (v0 : Nat) (I : mI) (z : mI) (H : Heap) (locs : List Loc) (ls : Array Slot), f_X9_blanks_L0 K v0 J0 R0 N I = some z → mHp g K n s I J0 R0 H locs → lv_has ls 1 [(0, .ref (g.2.1 v0))] → (∀ (H : Heap) (locs : List Loc) (ls : Array Slot), mHp g K n s z J0 R0 H locs → lv_has ls 1 [] → W p l e ({ frames := 0, cells := 0, slots := 0, locals := 0 } : Room) s m ([.ref (g.2.1 a0)] : List Value).toArray below meth c H locs 0 0 Qm (F0 m 52 ls [])) → W p l e ({ frames := 0, cells := 0, slots := 0, locals := 0 } : Room) s m ([.ref (g.2.1 a0)] : List Value).toArray below meth c H locs 0 0 Qm (F0 m 0 ls []) := by
    intro N
    induction N with
    | zero =>
      intro v0 I z H locs ls hf hw hl kx
      rw [f_X9_blanks_L0] at hf
      cases hf
    | succ N ih =>
      intro v0 I z H locs ls hf hw hl kx
      rw [f_X9_blanks_L0] at hf
      refine lv_aload_n hx hb dX9_blanks_0 rfl (lv_at hl 0 rfl) ?_
      obtain ⟨h1, hf⟩ := mChk hf
      refine mgi B hw flX9_161 rfl h1 dX9_blanks_1 ?_
      refine lv_aload_n hx hb dX9_blanks_4 rfl (lv_at hl 0 rfl) ?_
      refine mgi B hw flX9_164 rfl h1 dX9_blanks_5 ?_
      refine lv_icmp_ge (tgt := 52) hx hb dX9_blanks_8 (by decide) (fun c2 => ?_) (fun c2 => ?_)
      · replace hf := mT1 c2 hf
        obtain rfl := Option.some.inj hf
        exact kx _ _ _ hw (lv_sub hl [] rfl)
      · replace hf := mF1 c2 hf
        refine lv_aload_n hx hb dX9_blanks_11 rfl (lv_at hl 0 rfl) ?_
        obtain ⟨x3, e4, hf⟩ := mBind hf
        refine mgr B hw flX9_57 rfl h1 e4 dX9_blanks_12 ?_
        refine lv_aload_n hx hb dX9_blanks_15 rfl (lv_at hl 0 rfl) ?_
        refine mgi B hw flX9_161 rfl h1 dX9_blanks_16 ?_
        obtain ⟨h5, hf⟩ := mChk hf
        refine mld2 B hw h5 dX9_blanks_19 ?_
        refine lv_bipush (v := (32 : Int32)) hx hb dX9_blanks_20 (by decide) ?_
        refine lv_icmp_eq (tgt := 39) hx hb dX9_blanks_22 (by decide) (fun c6 => ?_) (fun c6 => ?_)
        · replace hf := mT1 c6 hf
          refine lv_aload_n hx hb dX9_blanks_39 rfl (lv_at hl 0 rfl) ?_
          refine lv_dup hx hb dX9_blanks_40 rfl ?_
          refine mgi B hw flX9_161 rfl h1 dX9_blanks_41 ?_
          refine lv_iconst (v := (1 : Int32)) hx hb dX9_blanks_44 (by decide) ?_
          refine lv_iadd hx hb dX9_blanks_45 ?_
          obtain ⟨I7, e8, hf⟩ := mLet hf
          refine mpi B hw puX9_161 rfl h1 dX9_blanks_46 (fun H locs hw => ?_)
          rw [← e8] at hw
          refine lv_goto (tgt := 0) hx hb dX9_blanks_49 (by decide) ?_
          exact ih v0 I7 z _ _ _ hf hw (lv_sub hl [0] rfl) kx
        · replace hf := mF1 c6 hf
          refine lv_aload_n hx hb dX9_blanks_25 rfl (lv_at hl 0 rfl) ?_
          refine mgr B hw flX9_57 rfl h1 e4 dX9_blanks_26 ?_
          refine lv_aload_n hx hb dX9_blanks_29 rfl (lv_at hl 0 rfl) ?_
          refine mgi B hw flX9_161 rfl h1 dX9_blanks_30 ?_
          refine mld2 B hw h5 dX9_blanks_33 ?_
          refine lv_bipush (v := (10 : Int32)) hx hb dX9_blanks_34 (by decide) ?_
          refine lv_icmp_ne (tgt := 52) hx hb dX9_blanks_36 (by decide) (fun c9 => ?_) (fun c9 => ?_)
          · replace hf := mF1 c9 hf
            obtain rfl := Option.some.inj hf
            exact kx _ _ _ hw (lv_sub hl [] rfl)
          · replace hf := mT1 c9 hf
            refine lv_aload_n hx hb dX9_blanks_39 rfl (lv_at hl 0 rfl) ?_
            refine lv_dup hx hb dX9_blanks_40 rfl ?_
            refine mgi B hw flX9_161 rfl h1 dX9_blanks_41 ?_
            refine lv_iconst (v := (1 : Int32)) hx hb dX9_blanks_44 (by decide) ?_
            refine lv_iadd hx hb dX9_blanks_45 ?_
            obtain ⟨I10, e11, hf⟩ := mLet hf
            refine mpi B hw puX9_161 rfl h1 dX9_blanks_46 (fun H locs hw => ?_)
            rw [← e11] at hw
            refine lv_goto (tgt := 0) hx hb dX9_blanks_49 (by decide) ?_
            exact ih v0 I10 z _ _ _ hf hw (lv_sub hl [0] rfl) kx
  obtain ⟨z12, e13, hf⟩ := mBind hf
  refine L0 8192 a0 I0 z12 _ _ _ e13 hw (lv_sub hl [0] rfl) (fun H locs ls hw hl => ?_)
  rw [hQm, ← Option.some.inj hf]
  exact mrv hx hb hr hlk hw dX9_blanks_52
def f_X9_word_L14 (K : mK) (v0 : Nat) (J0 : mJ) (R0 : mR) : Nat → Int64 → mI → Option (Int64 × mI)
  | 0, _, _ => none
  | N + 1, v1, I =>
  if K v0 = (0, 9) then
  if (I v0 18) ≤ (I v0 21) then
  some (v1, I)
  else
  (R0 v0 16).bind fun x3 =>
  if mIx K x3 2 (I v0 21) then
  if (I x3 ((I v0 21)).toNatClampNeg) < (97 : Int32) then
  some (v1, I)
  else
  if (122 : Int32) < (I x3 ((I v0 21)).toNatClampNeg) then
  some (v1, I)
  else
  if (7 : Int32) ≤ ((I v0 21) - (I v0 19)) then
  (some (mup I v0 21 ((I v0 21) + (1 : Int32)))).bind fun I9 =>
  f_X9_word_L14 K v0 J0 R0 N (0 : Int64) I9
  else
  (some ((v1 <<< (((8 : Int32)).toInt64 &&& 63)) ||| ((I x3 ((I v0 21)).toNatClampNeg)).toInt64)).bind fun y11 =>
  (some (mup I v0 21 ((I v0 21) + (1 : Int32)))).bind fun I13 =>
  f_X9_word_L14 K v0 J0 R0 N y11 I13
  else none
  else none
def f_X9_word (K : mK) (a0 : Nat) (I0 : mI) (J0 : mJ) (R0 : mR) : Option (Int64 × mI) :=
  if K a0 = (0, 9) then
  (f_X9_blanks K a0 I0 J0 R0).bind fun z16 =>
  (some (mup z16 a0 21 (z16 a0 19))).bind fun I18 =>
  (f_X9_word_L14 K a0 J0 R0 8192 (0 : Int64) I18).bind fun z20 =>
  if ((z20.2 a0 21) - (z20.2 a0 19)) ≤ (7 : Int32) then
  some (z20.1, z20.2)
  else
  some ((0 : Int64), z20.2)
  else none
set_option maxHeartbeats 4000000 in
set_option maxRecDepth 100000 in
theorem r_X9_word (l : Launch) (g : mG) (K : mK) (n : Nat) (hJ : mInj g n) (hO : mOk K n) (a0 : Nat) (I0 : mI) (J0 : mJ) (R0 : mR) (out : (Int64 × mI)) (hf : f_X9_word K a0 I0 J0 R0 = some out) : Met l yX9_word (mWs yX9_word cX9_word 3 (some .long)) ({ frames := 1, cells := 0, slots := 0, locals := 20 }) (va_Pc [.ref (g.2.1 a0)] (mB g K n I0 J0 R0)) (mQ g K n (some (.long out.1)) out.2 J0 R0) 0 0 (mA g n) := by
  unfold f_X9_word at hf
  refine mStart RX9 hJ hO (by decide) rfl (Nat.le_of_ble_eq_true rfl) ?_
  intro p e s m below meth c ls Qm hQm B hr hlk hw hl
  have hx := B.1.1
  have hb := B.1.2.1
  have hl : lv_has ls 3 [(0, .ref (g.2.1 a0))] := hl
  have L14 : ∀ (N : Nat) (v0 : Nat) (v1 : Int64) (I : mI) (z : (Int64 × mI)) (H : Heap) (locs : List Loc) (ls : Array Slot), f_X9_word_L14 K v0 J0 R0 N v1 I = some z → mHp g K n s I J0 R0 H locs → lv_has ls 3 [(0, .ref (g.2.1 v0)), (1, .long v1)] → (∀ (H : Heap) (locs : List Loc) (ls : Array Slot), mHp g K n s z.2 J0 R0 H locs → lv_has ls 3 [(0, .ref (g.2.1 v0)), (1, .long z.1)] → W p l e ({ frames := 1, cells := 0, slots := 0, locals := 20 } : Room) s m ([.ref (g.2.1 a0)] : List Value).toArray below meth c H locs 0 0 Qm (F0 m 100 ls [])) → W p l e ({ frames := 1, cells := 0, slots := 0, locals := 20 } : Room) s m ([.ref (g.2.1 a0)] : List Value).toArray below meth c H locs 0 0 Qm (F0 m 14 ls []) := by
    intro N
    induction N with
    | zero =>
      intro v0 v1 I z H locs ls hf hw hl kx
      rw [f_X9_word_L14] at hf
      cases hf
    | succ N ih =>
      intro v0 v1 I z H locs ls hf hw hl kx
      rw [f_X9_word_L14] at hf
      refine lv_aload_n hx hb dX9_word_14 rfl (lv_at hl 0 rfl) ?_
      obtain ⟨h1, hf⟩ := mChk hf
      refine mgi B hw flX9_170 rfl h1 dX9_word_15 ?_
      refine lv_aload_n hx hb dX9_word_18 rfl (lv_at hl 0 rfl) ?_
      refine mgi B hw flX9_164 rfl h1 dX9_word_19 ?_
      refine lv_icmp_ge (tgt := 100) hx hb dX9_word_22 (by decide) (fun c2 => ?_) (fun c2 => ?_)
      · replace hf := mT1 c2 hf
        obtain rfl := Option.some.inj hf
        exact kx _ _ _ hw (lv_sub hl [0, 1] rfl)
      · replace hf := mF1 c2 hf
        refine lv_aload_n hx hb dX9_word_25 rfl (lv_at hl 0 rfl) ?_
        obtain ⟨x3, e4, hf⟩ := mBind hf
        refine mgr B hw flX9_57 rfl h1 e4 dX9_word_26 ?_
        refine lv_aload_n hx hb dX9_word_29 rfl (lv_at hl 0 rfl) ?_
        refine mgi B hw flX9_170 rfl h1 dX9_word_30 ?_
        obtain ⟨h5, hf⟩ := mChk hf
        refine mld2 B hw h5 dX9_word_33 ?_
        refine lv_bipush (v := (97 : Int32)) hx hb dX9_word_34 (by decide) ?_
        refine lv_icmp_lt (tgt := 100) hx hb dX9_word_36 (by decide) (fun c6 => ?_) (fun c6 => ?_)
        · replace hf := mT1 c6 hf
          obtain rfl := Option.some.inj hf
          exact kx _ _ _ hw (lv_sub hl [0, 1] rfl)
        · replace hf := mF1 c6 hf
          refine lv_aload_n hx hb dX9_word_39 rfl (lv_at hl 0 rfl) ?_
          refine mgr B hw flX9_57 rfl h1 e4 dX9_word_40 ?_
          refine lv_aload_n hx hb dX9_word_43 rfl (lv_at hl 0 rfl) ?_
          refine mgi B hw flX9_170 rfl h1 dX9_word_44 ?_
          refine mld2 B hw h5 dX9_word_47 ?_
          refine lv_bipush (v := (122 : Int32)) hx hb dX9_word_48 (by decide) ?_
          refine lv_icmp_gt (tgt := 100) hx hb dX9_word_50 (by decide) (fun c7 => ?_) (fun c7 => ?_)
          · replace hf := mT1 c7 hf
            obtain rfl := Option.some.inj hf
            exact kx _ _ _ hw (lv_sub hl [0, 1] rfl)
          · replace hf := mF1 c7 hf
            refine lv_aload_n hx hb dX9_word_53 rfl (lv_at hl 0 rfl) ?_
            refine mgi B hw flX9_170 rfl h1 dX9_word_54 ?_
            refine lv_aload_n hx hb dX9_word_57 rfl (lv_at hl 0 rfl) ?_
            refine mgi B hw flX9_161 rfl h1 dX9_word_58 ?_
            refine lv_isub hx hb dX9_word_61 ?_
            refine lv_bipush (v := (7 : Int32)) hx hb dX9_word_62 (by decide) ?_
            refine lv_icmp_ge (tgt := 85) hx hb dX9_word_64 (by decide) (fun c8 => ?_) (fun c8 => ?_)
            · replace hf := mT1 c8 hf
              refine lv_lconst (v := (0 : Int64)) hx hb dX9_word_85 (by decide) ?_
              refine lv_lstore_n (lv' := [(1, .long (0 : Int64)), (0, .ref (g.2.1 v0))]) hx hb dX9_word_86 rfl hl (by decide) rfl (fun ls hl => ?_)
              refine lv_aload_n hx hb dX9_word_87 rfl (lv_at hl 1 rfl) ?_
              refine lv_dup hx hb dX9_word_88 rfl ?_
              refine mgi B hw flX9_170 rfl h1 dX9_word_89 ?_
              refine lv_iconst (v := (1 : Int32)) hx hb dX9_word_92 (by decide) ?_
              refine lv_iadd hx hb dX9_word_93 ?_
              obtain ⟨I9, e10, hf⟩ := mLet hf
              refine mpi B hw puX9_170 rfl h1 dX9_word_94 (fun H locs hw => ?_)
              rw [← e10] at hw
              refine lv_goto (tgt := 14) hx hb dX9_word_97 (by decide) ?_
              exact ih v0 (0 : Int64) I9 z _ _ _ hf hw (lv_sub hl [1, 0] rfl) kx
            · replace hf := mF1 c8 hf
              refine lv_lload_n hx hb dX9_word_67 rfl (lv_at hl 1 rfl) ?_
              refine lv_bipush (v := (8 : Int32)) hx hb dX9_word_68 (by decide) ?_
              refine lv_lshl hx hb dX9_word_70 rfl ?_
              refine lv_aload_n hx hb dX9_word_71 rfl (lv_at hl 0 rfl) ?_
              refine mgr B hw flX9_57 rfl h1 e4 dX9_word_72 ?_
              refine lv_aload_n hx hb dX9_word_75 rfl (lv_at hl 0 rfl) ?_
              refine mgi B hw flX9_170 rfl h1 dX9_word_76 ?_
              refine mld2 B hw h5 dX9_word_79 ?_
              refine lv_i2l hx hb dX9_word_80 rfl ?_
              refine lv_lor hx hb dX9_word_81 ?_
              refine lv_goto (tgt := 86) hx hb dX9_word_82 (by decide) ?_
              obtain ⟨y11, e12, hf⟩ := mLet hf
              rw [← e12]
              refine lv_lstore_n (lv' := [(1, .long y11), (0, .ref (g.2.1 v0))]) hx hb dX9_word_86 rfl hl (by decide) rfl (fun ls hl => ?_)
              refine lv_aload_n hx hb dX9_word_87 rfl (lv_at hl 1 rfl) ?_
              refine lv_dup hx hb dX9_word_88 rfl ?_
              refine mgi B hw flX9_170 rfl h1 dX9_word_89 ?_
              refine lv_iconst (v := (1 : Int32)) hx hb dX9_word_92 (by decide) ?_
              refine lv_iadd hx hb dX9_word_93 ?_
              obtain ⟨I13, e14, hf⟩ := mLet hf
              refine mpi B hw puX9_170 rfl h1 dX9_word_94 (fun H locs hw => ?_)
              rw [← e14] at hw
              refine lv_goto (tgt := 14) hx hb dX9_word_97 (by decide) ?_
              exact ih v0 y11 I13 z _ _ _ hf hw (lv_sub hl [1, 0] rfl) kx
  refine lv_aload_n hx hb dX9_word_0 rfl (lv_at hl 0 rfl) ?_
  obtain ⟨h15, hf⟩ := mChk hf
  obtain ⟨z16, e17, hf⟩ := mBind hf
  refine mcallV (rest := []) (ci := 9) B hw [] clX9_167 rfl h15 (r_X9_blanks l g K n hJ hO a0 I0 J0 R0 z16 e17) ⟨rfl, rfl, Nat.le_of_ble_eq_true rfl, Nat.le_of_ble_eq_true rfl⟩ rfl hl.1 (Nat.le_of_ble_eq_true rfl) ⟨Nat.zero_le _, Nat.zero_le _⟩ dX9_word_1 (fun H locs hw => ?_)
  refine W.eq (g2 := F0 m 4 ls []) rfl ?_
  refine lv_aload_n hx hb dX9_word_4 rfl (lv_at hl 0 rfl) ?_
  refine lv_aload_n hx hb dX9_word_5 rfl (lv_at hl 0 rfl) ?_
  refine mgi B hw flX9_161 rfl h15 dX9_word_6 ?_
  obtain ⟨I18, e19, hf⟩ := mLet hf
  refine mpi B hw puX9_170 rfl h15 dX9_word_9 (fun H locs hw => ?_)
  rw [← e19] at hw
  refine lv_lconst (v := (0 : Int64)) hx hb dX9_word_12 (by decide) ?_
  refine lv_lstore_n (lv' := [(1, .long (0 : Int64)), (0, .ref (g.2.1 a0))]) hx hb dX9_word_13 rfl hl (by decide) rfl (fun ls hl => ?_)
  obtain ⟨z20, e21, hf⟩ := mBind hf
  refine L14 8192 a0 (0 : Int64) I18 z20 _ _ _ e21 hw (lv_sub hl [1, 0] rfl) (fun H locs ls hw hl => ?_)
  refine lv_aload_n hx hb dX9_word_100 rfl (lv_at hl 0 rfl) ?_
  refine mgi B hw flX9_170 rfl h15 dX9_word_101 ?_
  refine lv_aload_n hx hb dX9_word_104 rfl (lv_at hl 0 rfl) ?_
  refine mgi B hw flX9_161 rfl h15 dX9_word_105 ?_
  refine lv_isub hx hb dX9_word_108 ?_
  refine lv_bipush (v := (7 : Int32)) hx hb dX9_word_109 (by decide) ?_
  refine lv_icmp_le (tgt := 118) hx hb dX9_word_111 (by decide) (fun c22 => ?_) (fun c22 => ?_)
  · replace hf := mT1 c22 hf
    refine lv_lload_n hx hb dX9_word_118 rfl (lv_at hl 1 rfl) ?_
    rw [hQm, ← Option.some.inj hf]
    exact mrl hx hb hr hlk hw dX9_word_119
  · replace hf := mF1 c22 hf
    refine lv_lconst (v := (0 : Int64)) hx hb dX9_word_114 (by decide) ?_
    refine lv_goto (tgt := 119) hx hb dX9_word_115 (by decide) ?_
    rw [hQm, ← Option.some.inj hf]
    exact mrl hx hb hr hlk hw dX9_word_119
def f_X9_takes (K : mK) (a0 : Nat) (a1 : Int64) (I0 : mI) (J0 : mJ) (R0 : mR) : Option (Bool × mI) :=
  if K a0 = (0, 9) then
  (f_X9_word K a0 I0 J0 R0).bind fun z2 =>
  if (lg_cmp z2.1 a1) = 0 then
  (some (mup z2.2 a0 19 (z2.2 a0 21))).bind fun I5 =>
  some (true, I5)
  else
  some (false, z2.2)
  else none
set_option maxHeartbeats 4000000 in
set_option maxRecDepth 100000 in
theorem r_X9_takes (l : Launch) (g : mG) (K : mK) (n : Nat) (hJ : mInj g n) (hO : mOk K n) (a0 : Nat) (a1 : Int64) (I0 : mI) (J0 : mJ) (R0 : mR) (out : (Bool × mI)) (hf : f_X9_takes K a0 a1 I0 J0 R0 = some out) : Met l yX9_takes (mWs yX9_takes cX9_takes 3 (some .boolean)) ({ frames := 2, cells := 0, slots := 0, locals := 42 }) (va_Pc [.ref (g.2.1 a0), .long a1] (mB g K n I0 J0 R0)) (mQ g K n (some (.int (mb out.1))) out.2 J0 R0) 0 0 (mA g n) := by
  unfold f_X9_takes at hf
  refine mStart RX9 hJ hO (by decide) rfl (Nat.le_of_ble_eq_true rfl) ?_
  intro p e s m below meth c ls Qm hQm B hr hlk hw hl
  have hx := B.1.1
  have hb := B.1.2.1
  have hl : lv_has ls 3 [(0, .ref (g.2.1 a0)), (1, .long a1)] := hl
  refine lv_aload_n hx hb dX9_takes_0 rfl (lv_at hl 0 rfl) ?_
  obtain ⟨h1, hf⟩ := mChk hf
  obtain ⟨z2, e3, hf⟩ := mBind hf
  refine mcallV (rest := []) (ci := 9) B hw [] clX9_173 rfl h1 (r_X9_word l g K n hJ hO a0 I0 J0 R0 z2 e3) ⟨rfl, rfl, Nat.le_of_ble_eq_true rfl, Nat.le_of_ble_eq_true rfl⟩ rfl hl.1 (Nat.le_of_ble_eq_true rfl) ⟨Nat.zero_le _, Nat.zero_le _⟩ dX9_takes_1 (fun H locs hw => ?_)
  refine W.eq (g2 := F0 m 4 ls [.long z2.1]) rfl ?_
  refine lv_lload_n hx hb dX9_takes_4 rfl (lv_at hl 1 rfl) ?_
  refine W.lcmp hx hb dX9_takes_5 ?_
  refine lv_if_eq (tgt := 11) hx hb dX9_takes_6 (by decide) (fun c4 => ?_) (fun c4 => ?_)
  · replace hf := mT1 c4 hf
    refine lv_aload_n hx hb dX9_takes_11 rfl (lv_at hl 0 rfl) ?_
    refine lv_aload_n hx hb dX9_takes_12 rfl (lv_at hl 0 rfl) ?_
    refine mgi B hw flX9_170 rfl h1 dX9_takes_13 ?_
    obtain ⟨I5, e6, hf⟩ := mLet hf
    refine mpi B hw puX9_161 rfl h1 dX9_takes_16 (fun H locs hw => ?_)
    rw [← e6] at hw
    refine lv_iconst (v := (1 : Int32)) hx hb dX9_takes_19 (by decide) ?_
    rw [hQm, ← Option.some.inj hf]
    exact mrz (v := true) hx hb hr hlk hw dX9_takes_20
  · replace hf := mF1 c4 hf
    refine lv_iconst (v := (0 : Int32)) hx hb dX9_takes_9 (by decide) ?_
    rw [hQm, ← Option.some.inj hf]
    exact mrz (v := false) hx hb hr hlk hw dX9_takes_10
def f_X9_takesNumber_L14 (K : mK) (v0 : Nat) (v1 : Int32) (v2 : Int32) (J0 : mJ) (R0 : mR) : Nat → Int32 → mI → Option (Int32 × mI)
  | 0, _, _ => none
  | N + 1, v3, I =>
  if K v0 = (0, 9) then
  if (I v0 18) ≤ v3 then
  some (v3, I)
  else
  (R0 v0 16).bind fun x3 =>
  if mIx K x3 2 v3 then
  if (I x3 (v3).toNatClampNeg) < (48 : Int32) then
  some (v3, I)
  else
  if (57 : Int32) < (I x3 (v3).toNatClampNeg) then
  some (v3, I)
  else
  if (3 : Int32) ≤ (v3 - (I v0 19)) then
  f_X9_takesNumber_L14 K v0 v1 v2 J0 R0 N (v3 + (1 : Int32)) I
  else
  (some (mup I v0 22 ((((10 : Int32) * (I v0 22)) + (I x3 (v3).toNatClampNeg)) - (48 : Int32)))).bind fun I9 =>
  f_X9_takesNumber_L14 K v0 v1 v2 J0 R0 N (v3 + (1 : Int32)) I9
  else none
  else none
def f_X9_takesNumber (K : mK) (a0 : Nat) (a1 : Int32) (a2 : Int32) (I0 : mI) (J0 : mJ) (R0 : mR) : Option (Bool × mI) :=
  if K a0 = (0, 9) then
  (f_X9_blanks K a0 I0 J0 R0).bind fun z12 =>
  (some (mup z12 a0 22 (0 : Int32))).bind fun I14 =>
  (f_X9_takesNumber_L14 K a0 a1 a2 J0 R0 8192 (z12 a0 19) I14).bind fun z16 =>
  if z16.1 = (z16.2 a0 19) then
  some (false, z16.2)
  else
  if (3 : Int32) < (z16.1 - (z16.2 a0 19)) then
  some (false, z16.2)
  else
  (f_X9_isIn K (z16.2 a0 22) a1 a2 z16.2 J0 R0).bind fun z20 =>
  if (mb z20) = 0 then
  some (false, z16.2)
  else
  (some (mup z16.2 a0 19 z16.1)).bind fun I23 =>
  some (true, I23)
  else none
set_option maxHeartbeats 4000000 in
set_option maxRecDepth 100000 in
theorem r_X9_takesNumber (l : Launch) (g : mG) (K : mK) (n : Nat) (hJ : mInj g n) (hO : mOk K n) (a0 : Nat) (a1 : Int32) (a2 : Int32) (I0 : mI) (J0 : mJ) (R0 : mR) (out : (Bool × mI)) (hf : f_X9_takesNumber K a0 a1 a2 I0 J0 R0 = some out) : Met l yX9_takesNumber (mWs yX9_takesNumber cX9_takesNumber 4 (some .boolean)) ({ frames := 1, cells := 0, slots := 0, locals := 22 }) (va_Pc [.ref (g.2.1 a0), .int a1, .int a2] (mB g K n I0 J0 R0)) (mQ g K n (some (.int (mb out.1))) out.2 J0 R0) 0 0 (mA g n) := by
  unfold f_X9_takesNumber at hf
  refine mStart RX9 hJ hO (by decide) rfl (Nat.le_of_ble_eq_true rfl) ?_
  intro p e s m below meth c ls Qm hQm B hr hlk hw hl
  have hx := B.1.1
  have hb := B.1.2.1
  have hl : lv_has ls 4 [(0, .ref (g.2.1 a0)), (1, .int a1), (2, .int a2)] := hl
  have L14 : ∀ (N : Nat) (v0 : Nat) (v1 : Int32) (v2 : Int32) (v3 : Int32) (I : mI) (z : (Int32 × mI)) (H : Heap) (locs : List Loc) (ls : Array Slot), f_X9_takesNumber_L14 K v0 v1 v2 J0 R0 N v3 I = some z → mHp g K n s I J0 R0 H locs → lv_has ls 4 [(0, .ref (g.2.1 v0)), (1, .int v1), (2, .int v2), (3, .int v3)] → (∀ (H : Heap) (locs : List Loc) (ls : Array Slot), mHp g K n s z.2 J0 R0 H locs → lv_has ls 4 [(0, .ref (g.2.1 v0)), (1, .int v1), (2, .int v2), (3, .int z.1)] → W p l e ({ frames := 1, cells := 0, slots := 0, locals := 22 } : Room) s m ([.ref (g.2.1 a0), .int a1, .int a2] : List Value).toArray below meth c H locs 0 0 Qm (F0 m 81 ls [])) → W p l e ({ frames := 1, cells := 0, slots := 0, locals := 22 } : Room) s m ([.ref (g.2.1 a0), .int a1, .int a2] : List Value).toArray below meth c H locs 0 0 Qm (F0 m 14 ls []) := by
    intro N
    induction N with
    | zero =>
      intro v0 v1 v2 v3 I z H locs ls hf hw hl kx
      rw [f_X9_takesNumber_L14] at hf
      cases hf
    | succ N ih =>
      intro v0 v1 v2 v3 I z H locs ls hf hw hl kx
      rw [f_X9_takesNumber_L14] at hf
      refine lv_iload_n hx hb dX9_takesNumber_14 rfl (lv_at hl 3 rfl) ?_
      refine lv_aload_n hx hb dX9_takesNumber_15 rfl (lv_at hl 0 rfl) ?_
      obtain ⟨h1, hf⟩ := mChk hf
      refine mgi B hw flX9_164 rfl h1 dX9_takesNumber_16 ?_
      refine lv_icmp_ge (tgt := 81) hx hb dX9_takesNumber_19 (by decide) (fun c2 => ?_) (fun c2 => ?_)
      · replace hf := mT1 c2 hf
        obtain rfl := Option.some.inj hf
        exact kx _ _ _ hw (lv_sub hl [0, 1, 2, 3] rfl)
      · replace hf := mF1 c2 hf
        refine lv_aload_n hx hb dX9_takesNumber_22 rfl (lv_at hl 0 rfl) ?_
        obtain ⟨x3, e4, hf⟩ := mBind hf
        refine mgr B hw flX9_57 rfl h1 e4 dX9_takesNumber_23 ?_
        refine lv_iload_n hx hb dX9_takesNumber_26 rfl (lv_at hl 3 rfl) ?_
        obtain ⟨h5, hf⟩ := mChk hf
        refine mld2 B hw h5 dX9_takesNumber_27 ?_
        refine lv_bipush (v := (48 : Int32)) hx hb dX9_takesNumber_28 (by decide) ?_
        refine lv_icmp_lt (tgt := 81) hx hb dX9_takesNumber_30 (by decide) (fun c6 => ?_) (fun c6 => ?_)
        · replace hf := mT1 c6 hf
          obtain rfl := Option.some.inj hf
          exact kx _ _ _ hw (lv_sub hl [0, 1, 2, 3] rfl)
        · replace hf := mF1 c6 hf
          refine lv_aload_n hx hb dX9_takesNumber_33 rfl (lv_at hl 0 rfl) ?_
          refine mgr B hw flX9_57 rfl h1 e4 dX9_takesNumber_34 ?_
          refine lv_iload_n hx hb dX9_takesNumber_37 rfl (lv_at hl 3 rfl) ?_
          refine mld2 B hw h5 dX9_takesNumber_38 ?_
          refine lv_bipush (v := (57 : Int32)) hx hb dX9_takesNumber_39 (by decide) ?_
          refine lv_icmp_gt (tgt := 81) hx hb dX9_takesNumber_41 (by decide) (fun c7 => ?_) (fun c7 => ?_)
          · replace hf := mT1 c7 hf
            obtain rfl := Option.some.inj hf
            exact kx _ _ _ hw (lv_sub hl [0, 1, 2, 3] rfl)
          · replace hf := mF1 c7 hf
            refine lv_iload_n hx hb dX9_takesNumber_44 rfl (lv_at hl 3 rfl) ?_
            refine lv_aload_n hx hb dX9_takesNumber_45 rfl (lv_at hl 0 rfl) ?_
            refine mgi B hw flX9_161 rfl h1 dX9_takesNumber_46 ?_
            refine lv_isub hx hb dX9_takesNumber_49 ?_
            refine lv_iconst (v := (3 : Int32)) hx hb dX9_takesNumber_50 (by decide) ?_
            refine lv_icmp_ge (tgt := 75) hx hb dX9_takesNumber_51 (by decide) (fun c8 => ?_) (fun c8 => ?_)
            · replace hf := mT1 c8 hf
              refine lv_iinc (v := (v3 + (1 : Int32))) (lv' := [(3, .int (v3 + (1 : Int32))), (0, .ref (g.2.1 v0)), (1, .int v1), (2, .int v2)]) hx hb dX9_takesNumber_75 hl (k := 3) rfl rfl (by decide) rfl (fun ls hl => ?_)
              refine lv_goto (tgt := 14) hx hb dX9_takesNumber_78 (by decide) ?_
              exact ih v0 v1 v2 (v3 + (1 : Int32)) I z _ _ _ hf hw (lv_sub hl [1, 2, 3, 0] rfl) kx
            · replace hf := mF1 c8 hf
              refine lv_aload_n hx hb dX9_takesNumber_54 rfl (lv_at hl 0 rfl) ?_
              refine lv_bipush (v := (10 : Int32)) hx hb dX9_takesNumber_55 (by decide) ?_
              refine lv_aload_n hx hb dX9_takesNumber_57 rfl (lv_at hl 0 rfl) ?_
              refine mgi B hw flX9_177 rfl h1 dX9_takesNumber_58 ?_
              refine lv_imul hx hb dX9_takesNumber_61 ?_
              refine lv_aload_n hx hb dX9_takesNumber_62 rfl (lv_at hl 0 rfl) ?_
              refine mgr B hw flX9_57 rfl h1 e4 dX9_takesNumber_63 ?_
              refine lv_iload_n hx hb dX9_takesNumber_66 rfl (lv_at hl 3 rfl) ?_
              refine mld2 B hw h5 dX9_takesNumber_67 ?_
              refine lv_iadd hx hb dX9_takesNumber_68 ?_
              refine lv_bipush (v := (48 : Int32)) hx hb dX9_takesNumber_69 (by decide) ?_
              refine lv_isub hx hb dX9_takesNumber_71 ?_
              obtain ⟨I9, e10, hf⟩ := mLet hf
              refine mpi B hw puX9_177 rfl h1 dX9_takesNumber_72 (fun H locs hw => ?_)
              rw [← e10] at hw
              refine lv_iinc (v := (v3 + (1 : Int32))) (lv' := [(3, .int (v3 + (1 : Int32))), (0, .ref (g.2.1 v0)), (1, .int v1), (2, .int v2)]) hx hb dX9_takesNumber_75 hl (k := 3) rfl rfl (by decide) rfl (fun ls hl => ?_)
              refine lv_goto (tgt := 14) hx hb dX9_takesNumber_78 (by decide) ?_
              exact ih v0 v1 v2 (v3 + (1 : Int32)) I9 z _ _ _ hf hw (lv_sub hl [1, 2, 3, 0] rfl) kx
  refine lv_aload_n hx hb dX9_takesNumber_0 rfl (lv_at hl 0 rfl) ?_
  obtain ⟨h11, hf⟩ := mChk hf
  obtain ⟨z12, e13, hf⟩ := mBind hf
  refine mcallV (rest := []) (ci := 9) B hw [] clX9_167 rfl h11 (r_X9_blanks l g K n hJ hO a0 I0 J0 R0 z12 e13) ⟨rfl, rfl, Nat.le_of_ble_eq_true rfl, Nat.le_of_ble_eq_true rfl⟩ rfl hl.1 (Nat.le_of_ble_eq_true rfl) ⟨Nat.zero_le _, Nat.zero_le _⟩ dX9_takesNumber_1 (fun H locs hw => ?_)
  refine W.eq (g2 := F0 m 4 ls []) rfl ?_
  refine lv_aload_n hx hb dX9_takesNumber_4 rfl (lv_at hl 0 rfl) ?_
  refine mgi B hw flX9_161 rfl h11 dX9_takesNumber_5 ?_
  refine lv_istore_n (lv' := [(3, .int (z12 a0 19)), (0, .ref (g.2.1 a0)), (1, .int a1), (2, .int a2)]) hx hb dX9_takesNumber_8 rfl hl (by decide) rfl (fun ls hl => ?_)
  refine lv_aload_n hx hb dX9_takesNumber_9 rfl (lv_at hl 1 rfl) ?_
  refine lv_iconst (v := (0 : Int32)) hx hb dX9_takesNumber_10 (by decide) ?_
  obtain ⟨I14, e15, hf⟩ := mLet hf
  refine mpi B hw puX9_177 rfl h11 dX9_takesNumber_11 (fun H locs hw => ?_)
  rw [← e15] at hw
  obtain ⟨z16, e17, hf⟩ := mBind hf
  refine L14 8192 a0 a1 a2 (z12 a0 19) I14 z16 _ _ _ e17 hw (lv_sub hl [1, 2, 3, 0] rfl) (fun H locs ls hw hl => ?_)
  refine lv_iload_n hx hb dX9_takesNumber_81 rfl (lv_at hl 3 rfl) ?_
  refine lv_aload_n hx hb dX9_takesNumber_82 rfl (lv_at hl 0 rfl) ?_
  refine mgi B hw flX9_161 rfl h11 dX9_takesNumber_83 ?_
  refine lv_icmp_eq (tgt := 111) hx hb dX9_takesNumber_86 (by decide) (fun c18 => ?_) (fun c18 => ?_)
  · replace hf := mT1 c18 hf
    refine lv_iconst (v := (0 : Int32)) hx hb dX9_takesNumber_111 (by decide) ?_
    rw [hQm, ← Option.some.inj hf]
    exact mrz (v := false) hx hb hr hlk hw dX9_takesNumber_112
  · replace hf := mF1 c18 hf
    refine lv_iload_n hx hb dX9_takesNumber_89 rfl (lv_at hl 3 rfl) ?_
    refine lv_aload_n hx hb dX9_takesNumber_90 rfl (lv_at hl 0 rfl) ?_
    refine mgi B hw flX9_161 rfl h11 dX9_takesNumber_91 ?_
    refine lv_isub hx hb dX9_takesNumber_94 ?_
    refine lv_iconst (v := (3 : Int32)) hx hb dX9_takesNumber_95 (by decide) ?_
    refine lv_icmp_gt (tgt := 111) hx hb dX9_takesNumber_96 (by decide) (fun c19 => ?_) (fun c19 => ?_)
    · replace hf := mT1 c19 hf
      refine lv_iconst (v := (0 : Int32)) hx hb dX9_takesNumber_111 (by decide) ?_
      rw [hQm, ← Option.some.inj hf]
      exact mrz (v := false) hx hb hr hlk hw dX9_takesNumber_112
    · replace hf := mF1 c19 hf
      refine lv_aload_n hx hb dX9_takesNumber_99 rfl (lv_at hl 0 rfl) ?_
      refine mgi B hw flX9_177 rfl h11 dX9_takesNumber_100 ?_
      refine lv_iload_n hx hb dX9_takesNumber_103 rfl (lv_at hl 1 rfl) ?_
      refine lv_iload_n hx hb dX9_takesNumber_104 rfl (lv_at hl 2 rfl) ?_
      obtain ⟨z20, e21, hf⟩ := mBind hf
      refine mcallS (rest := []) B hw [.int (z16.2 a0 22), .int a1, .int a2] clX9_64 (r_X9_isIn l g K n hJ hO (z16.2 a0 22) a1 a2 z16.2 J0 R0 z20 e21) ⟨rfl, rfl, Nat.le_of_ble_eq_true rfl, Nat.le_of_ble_eq_true rfl⟩ rfl hl.1 (Nat.le_of_ble_eq_true rfl) ⟨Nat.zero_le _, Nat.zero_le _⟩ dX9_takesNumber_105 (fun H locs hw => ?_)
      refine W.eq (g2 := F0 m 108 ls [.int (mb z20)]) rfl ?_
      refine lv_if_ne (tgt := 113) hx hb dX9_takesNumber_108 (by decide) (fun c22 => ?_) (fun c22 => ?_)
      · replace hf := mF1 c22 hf
        refine lv_aload_n hx hb dX9_takesNumber_113 rfl (lv_at hl 0 rfl) ?_
        refine lv_iload_n hx hb dX9_takesNumber_114 rfl (lv_at hl 3 rfl) ?_
        obtain ⟨I23, e24, hf⟩ := mLet hf
        refine mpi B hw puX9_161 rfl h11 dX9_takesNumber_115 (fun H locs hw => ?_)
        rw [← e24] at hw
        refine lv_iconst (v := (1 : Int32)) hx hb dX9_takesNumber_118 (by decide) ?_
        rw [hQm, ← Option.some.inj hf]
        exact mrz (v := true) hx hb hr hlk hw dX9_takesNumber_119
      · replace hf := mT1 c22 hf
        refine lv_iconst (v := (0 : Int32)) hx hb dX9_takesNumber_111 (by decide) ?_
        rw [hQm, ← Option.some.inj hf]
        exact mrz (v := false) hx hb hr hlk hw dX9_takesNumber_112
