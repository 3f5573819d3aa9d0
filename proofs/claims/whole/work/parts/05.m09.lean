def f_X9_fault (K : mK) (a0 : Nat) (I0 : mI) (J0 : mJ) (R0 : mR) : Option Int32 :=
  if K a0 = (0, 9) then
  some (I0 a0 20)
  else none
set_option maxHeartbeats 4000000 in
set_option maxRecDepth 100000 in
theorem r_X9_fault (l : Launch) (g : mG) (K : mK) (n : Nat) (hJ : mInj g n) (hO : mOk K n) (a0 : Nat) (I0 : mI) (J0 : mJ) (R0 : mR) (out : Int32) (hf : f_X9_fault K a0 I0 J0 R0 = some out) : Met l yX9_fault (mWs yX9_fault cX9_fault 1 (some .int)) ({ frames := 0, cells := 0, slots := 0, locals := 0 }) (va_Pc [.ref (g.2.1 a0)] (mB g K n I0 J0 R0)) (mQ g K n (some (.int out)) I0 J0 R0) 0 0 (mA g n) := by
  unfold f_X9_fault at hf
  refine mStart RX9 hJ hO (by decide) rfl (Nat.le_of_ble_eq_true rfl) ?_
  intro p e s m below meth c ls Qm hQm B hr hlk hw hl
  have hx := B.1.1
  have hb := B.1.2.1
  have hl : lv_has ls 1 [(0, .ref (g.2.1 a0))] := hl
  refine lv_aload_n hx hb dX9_fault_0 rfl (lv_at hl 0 rfl) ?_
  obtain ⟨h1, hf⟩ := mChk hf
  refine mgi B hw flX9_60 rfl h1 dX9_fault_1 ?_
  rw [hQm, ← Option.some.inj hf]
  exact mri hx hb hr hlk hw dX9_fault_4
def f_X9_bodies_L4 (K : mK) (v0 : Nat) (I0 : mI) (J0 : mJ) (R0 : mR) : Nat → Int32 → Int32 → Option Int32
  | 0, _, _ => none
  | N + 1, v1, v2 =>
  if K v0 = (0, 9) then
  (R0 v0 0).bind fun x2 =>
  if mIx K x2 1 (1 : Int32) then
  if (I0 x2 ((1 : Int32)).toNatClampNeg) ≤ v2 then
  some v1
  else
  (R0 v0 5).bind fun x6 =>
  if mIx K x6 1 v2 then
  if (I0 x6 (v2).toNatClampNeg) = v2 then
  (f_X9_one K true I0 J0 R0).bind fun z12 =>
  f_X9_bodies_L4 K v0 I0 J0 R0 N (v1 + z12) (v2 + (1 : Int32))
  else
  (f_X9_one K false I0 J0 R0).bind fun z10 =>
  f_X9_bodies_L4 K v0 I0 J0 R0 N (v1 + z10) (v2 + (1 : Int32))
  else none
  else none
  else none
def f_X9_bodies (K : mK) (a0 : Nat) (I0 : mI) (J0 : mJ) (R0 : mR) : Option Int32 :=
  (f_X9_bodies_L4 K a0 I0 J0 R0 8192 (0 : Int32) (0 : Int32)).bind fun z14 =>
  some z14
set_option maxHeartbeats 4000000 in
set_option maxRecDepth 100000 in
theorem r_X9_bodies (l : Launch) (g : mG) (K : mK) (n : Nat) (hJ : mInj g n) (hO : mOk K n) (a0 : Nat) (I0 : mI) (J0 : mJ) (R0 : mR) (out : Int32) (hf : f_X9_bodies K a0 I0 J0 R0 = some out) : Met l yX9_bodies (mWs yX9_bodies cX9_bodies 3 (some .int)) ({ frames := 1, cells := 0, slots := 0, locals := 20 }) (va_Pc [.ref (g.2.1 a0)] (mB g K n I0 J0 R0)) (mQ g K n (some (.int out)) I0 J0 R0) 0 0 (mA g n) := by
  unfold f_X9_bodies at hf
  refine mStart RX9 hJ hO (by decide) rfl (Nat.le_of_ble_eq_true rfl) ?_
  intro p e s m below meth c ls Qm hQm B hr hlk hw hl
  have hx := B.1.1
  have hb := B.1.2.1
  have hl : lv_has ls 3 [(0, .ref (g.2.1 a0))] := hl
  have L4 : ∀ (N : Nat) (v0 : Nat) (v1 : Int32) (v2 : Int32) (z : Int32) (H : Heap) (locs : List Loc) (ls : Array Slot), f_X9_bodies_L4 K v0 I0 J0 R0 N v1 v2 = some z → mHp g K n s I0 J0 R0 H locs → lv_has ls 3 [(0, .ref (g.2.1 v0)), (1, .int v1), (2, .int v2)] → (∀ (H : Heap) (locs : List Loc) (ls : Array Slot), mHp g K n s I0 J0 R0 H locs → lv_has ls 3 [(1, .int z)] → W p l e ({ frames := 1, cells := 0, slots := 0, locals := 20 } : Room) s m ([.ref (g.2.1 a0)] : List Value).toArray below meth c H locs 0 0 Qm (F0 m 41 ls [])) → W p l e ({ frames := 1, cells := 0, slots := 0, locals := 20 } : Room) s m ([.ref (g.2.1 a0)] : List Value).toArray below meth c H locs 0 0 Qm (F0 m 4 ls []) := by
    intro N
    induction N with
    | zero =>
      intro v0 v1 v2  z H locs ls hf hw hl kx
      rw [f_X9_bodies_L4] at hf
      cases hf
    | succ N ih =>
      intro v0 v1 v2  z H locs ls hf hw hl kx
      rw [f_X9_bodies_L4] at hf
      refine lv_iload_n hx hb dX9_bodies_4 rfl (lv_at hl 2 rfl) ?_
      refine lv_aload_n hx hb dX9_bodies_5 rfl (lv_at hl 0 rfl) ?_
      obtain ⟨h1, hf⟩ := mChk hf
      obtain ⟨x2, e3, hf⟩ := mBind hf
      refine mgr B hw flX9_7 rfl h1 e3 dX9_bodies_6 ?_
      refine lv_iconst (v := (1 : Int32)) hx hb dX9_bodies_9 (by decide) ?_
      obtain ⟨h4, hf⟩ := mChk hf
      refine mld1 B hw h4 dX9_bodies_10 ?_
      refine lv_icmp_ge (tgt := 41) hx hb dX9_bodies_11 (by decide) (fun c5 => ?_) (fun c5 => ?_)
      · replace hf := mT1 c5 hf
        obtain rfl := Option.some.inj hf
        exact kx _ _ _ hw (lv_sub hl [1] rfl)
      · replace hf := mF1 c5 hf
        refine lv_iload_n hx hb dX9_bodies_14 rfl (lv_at hl 1 rfl) ?_
        refine lv_aload_n hx hb dX9_bodies_15 rfl (lv_at hl 0 rfl) ?_
        obtain ⟨x6, e7, hf⟩ := mBind hf
        refine mgr B hw flX9_25 rfl h1 e7 dX9_bodies_16 ?_
        refine lv_iload_n hx hb dX9_bodies_19 rfl (lv_at hl 2 rfl) ?_
        obtain ⟨h8, hf⟩ := mChk hf
        refine mld1 B hw h8 dX9_bodies_20 ?_
        refine lv_iload_n hx hb dX9_bodies_21 rfl (lv_at hl 2 rfl) ?_
        refine lv_icmp_ne (tgt := 29) hx hb dX9_bodies_22 (by decide) (fun c9 => ?_) (fun c9 => ?_)
        · replace hf := mF1 c9 hf
          refine lv_iconst (v := (0 : Int32)) hx hb dX9_bodies_29 (by decide) ?_
          obtain ⟨z10, e11, hf⟩ := mBind hf
          refine mcallS (rest := [.int v1]) B hw [.int (mb false)] clX9_102 (r_X9_one l g K n hJ hO false I0 J0 R0 z10 e11) ⟨rfl, rfl, Nat.le_of_ble_eq_true rfl, Nat.le_of_ble_eq_true rfl⟩ rfl hl.1 (Nat.le_of_ble_eq_true rfl) ⟨Nat.zero_le _, Nat.zero_le _⟩ dX9_bodies_30 (fun H locs hw => ?_)
          refine W.eq (g2 := F0 m 33 ls [.int z10, .int v1]) rfl ?_
          refine lv_iadd hx hb dX9_bodies_33 ?_
          refine lv_istore_n (lv' := [(1, .int (v1 + z10)), (0, .ref (g.2.1 v0)), (2, .int v2)]) hx hb dX9_bodies_34 rfl hl (by decide) rfl (fun ls hl => ?_)
          refine lv_iinc (v := (v2 + (1 : Int32))) (lv' := [(2, .int (v2 + (1 : Int32))), (1, .int (v1 + z10)), (0, .ref (g.2.1 v0))]) hx hb dX9_bodies_35 hl (k := 2) rfl rfl (by decide) rfl (fun ls hl => ?_)
          refine lv_goto (tgt := 4) hx hb dX9_bodies_38 (by decide) ?_
          exact ih v0 (v1 + z10) (v2 + (1 : Int32)) z _ _ _ hf hw (lv_sub hl [2, 1, 0] rfl) kx
        · replace hf := mT1 c9 hf
          refine lv_iconst (v := (1 : Int32)) hx hb dX9_bodies_25 (by decide) ?_
          refine lv_goto (tgt := 30) hx hb dX9_bodies_26 (by decide) ?_
          obtain ⟨z12, e13, hf⟩ := mBind hf
          refine mcallS (rest := [.int v1]) B hw [.int (mb true)] clX9_102 (r_X9_one l g K n hJ hO true I0 J0 R0 z12 e13) ⟨rfl, rfl, Nat.le_of_ble_eq_true rfl, Nat.le_of_ble_eq_true rfl⟩ rfl hl.1 (Nat.le_of_ble_eq_true rfl) ⟨Nat.zero_le _, Nat.zero_le _⟩ dX9_bodies_30 (fun H locs hw => ?_)
          refine W.eq (g2 := F0 m 33 ls [.int z12, .int v1]) rfl ?_
          refine lv_iadd hx hb dX9_bodies_33 ?_
          refine lv_istore_n (lv' := [(1, .int (v1 + z12)), (0, .ref (g.2.1 v0)), (2, .int v2)]) hx hb dX9_bodies_34 rfl hl (by decide) rfl (fun ls hl => ?_)
          refine lv_iinc (v := (v2 + (1 : Int32))) (lv' := [(2, .int (v2 + (1 : Int32))), (1, .int (v1 + z12)), (0, .ref (g.2.1 v0))]) hx hb dX9_bodies_35 hl (k := 2) rfl rfl (by decide) rfl (fun ls hl => ?_)
          refine lv_goto (tgt := 4) hx hb dX9_bodies_38 (by decide) ?_
          exact ih v0 (v1 + z12) (v2 + (1 : Int32)) z _ _ _ hf hw (lv_sub hl [2, 1, 0] rfl) kx
  refine lv_iconst (v := (0 : Int32)) hx hb dX9_bodies_0 (by decide) ?_
  refine lv_istore_n (lv' := [(1, .int (0 : Int32)), (0, .ref (g.2.1 a0))]) hx hb dX9_bodies_1 rfl hl (by decide) rfl (fun ls hl => ?_)
  refine lv_iconst (v := (0 : Int32)) hx hb dX9_bodies_2 (by decide) ?_
  refine lv_istore_n (lv' := [(2, .int (0 : Int32)), (1, .int (0 : Int32)), (0, .ref (g.2.1 a0))]) hx hb dX9_bodies_3 rfl hl (by decide) rfl (fun ls hl => ?_)
  obtain ⟨z14, e15, hf⟩ := mBind hf
  refine L4 8192 a0 (0 : Int32) (0 : Int32) z14 _ _ _ e15 hw (lv_sub hl [2, 1, 0] rfl) (fun H locs ls hw hl => ?_)
  refine lv_iload_n hx hb dX9_bodies_41 rfl (lv_at hl 0 rfl) ?_
  rw [hQm, ← Option.some.inj hf]
  exact mri hx hb hr hlk hw dX9_bodies_42
def f_X9_names_L4 (K : mK) (v0 : Nat) (v1 : Bool) (I0 : mI) (J0 : mJ) (R0 : mR) : Nat → Int32 → Int32 → Option Int32
  | 0, _, _ => none
  | N + 1, v2, v3 =>
  if K v0 = (0, 9) then
  (R0 v0 0).bind fun x2 =>
  if mIx K x2 1 (1 : Int32) then
  if (I0 x2 ((1 : Int32)).toNatClampNeg) ≤ v3 then
  some v2
  else
  (R0 v0 5).bind fun x6 =>
  if mIx K x6 1 v3 then
  if (I0 x6 (v3).toNatClampNeg) = v3 then
  (R0 v0 6).bind fun x12 =>
  if mIx K x12 1 v3 then
  if (I0 x12 (v3).toNatClampNeg) = (-1 : Int32) then
  (f_X9_one K false I0 J0 R0).bind fun z16 =>
  f_X9_names_L4 K v0 v1 I0 J0 R0 N (v2 + z16) (v3 + (1 : Int32))
  else
  if (mb v1) = 0 then
  (f_X9_one K true I0 J0 R0).bind fun z19 =>
  f_X9_names_L4 K v0 v1 I0 J0 R0 N (v2 + z19) (v3 + (1 : Int32))
  else
  (f_X9_isDoubted K v0 v3 I0 J0 R0).bind fun z21 =>
  if (mb z21) = 0 then
  (f_X9_one K false I0 J0 R0).bind fun z24 =>
  f_X9_names_L4 K v0 v1 I0 J0 R0 N (v2 + z24) (v3 + (1 : Int32))
  else
  (f_X9_one K true I0 J0 R0).bind fun z26 =>
  f_X9_names_L4 K v0 v1 I0 J0 R0 N (v2 + z26) (v3 + (1 : Int32))
  else none
  else
  (f_X9_one K false I0 J0 R0).bind fun z10 =>
  f_X9_names_L4 K v0 v1 I0 J0 R0 N (v2 + z10) (v3 + (1 : Int32))
  else none
  else none
  else none
def f_X9_names (K : mK) (a0 : Nat) (a1 : Bool) (I0 : mI) (J0 : mJ) (R0 : mR) : Option Int32 :=
  (f_X9_names_L4 K a0 a1 I0 J0 R0 8192 (0 : Int32) (0 : Int32)).bind fun z28 =>
  some z28
set_option maxHeartbeats 4000000 in
set_option maxRecDepth 100000 in
theorem r_X9_names (l : Launch) (g : mG) (K : mK) (n : Nat) (hJ : mInj g n) (hO : mOk K n) (a0 : Nat) (a1 : Bool) (I0 : mI) (J0 : mJ) (R0 : mR) (out : Int32) (hf : f_X9_names K a0 a1 I0 J0 R0 = some out) : Met l yX9_names (mWs yX9_names cX9_names 4 (some .int)) ({ frames := 4, cells := 0, slots := 0, locals := 91 }) (va_Pc [.ref (g.2.1 a0), .int (mb a1)] (mB g K n I0 J0 R0)) (mQ g K n (some (.int out)) I0 J0 R0) 0 0 (mA g n) := by
  unfold f_X9_names at hf
  refine mStart RX9 hJ hO (by decide) rfl (Nat.le_of_ble_eq_true rfl) ?_
  intro p e s m below meth c ls Qm hQm B hr hlk hw hl
  have hx := B.1.1
  have hb := B.1.2.1
  have hl : lv_has ls 4 [(0, .ref (g.2.1 a0)), (1, .int (mb a1))] := hl
  have L4 : ∀ (N : Nat) (v0 : Nat) (v1 : Bool) (v2 : Int32) (v3 : Int32) (z : Int32) (H : Heap) (locs : List Loc) (ls : Array Slot), f_X9_names_L4 K v0 v1 I0 J0 R0 N v2 v3 = some z → mHp g K n s I0 J0 R0 H locs → lv_has ls 4 [(0, .ref (g.2.1 v0)), (1, .int (mb v1)), (2, .int v2), (3, .int v3)] → (∀ (H : Heap) (locs : List Loc) (ls : Array Slot), mHp g K n s I0 J0 R0 H locs → lv_has ls 4 [(2, .int z)] → W p l e ({ frames := 4, cells := 0, slots := 0, locals := 91 } : Room) s m ([.ref (g.2.1 a0), .int (mb a1)] : List Value).toArray below meth c H locs 0 0 Qm (F0 m 63 ls [])) → W p l e ({ frames := 4, cells := 0, slots := 0, locals := 91 } : Room) s m ([.ref (g.2.1 a0), .int (mb a1)] : List Value).toArray below meth c H locs 0 0 Qm (F0 m 4 ls []) := by
    intro N
    induction N with
    | zero =>
      intro v0 v1 v2 v3  z H locs ls hf hw hl kx
      rw [f_X9_names_L4] at hf
      cases hf
    | succ N ih =>
      intro v0 v1 v2 v3  z H locs ls hf hw hl kx
      rw [f_X9_names_L4] at hf
      refine lv_iload_n hx hb dX9_names_4 rfl (lv_at hl 3 rfl) ?_
      refine lv_aload_n hx hb dX9_names_5 rfl (lv_at hl 0 rfl) ?_
      obtain ⟨h1, hf⟩ := mChk hf
      obtain ⟨x2, e3, hf⟩ := mBind hf
      refine mgr B hw flX9_7 rfl h1 e3 dX9_names_6 ?_
      refine lv_iconst (v := (1 : Int32)) hx hb dX9_names_9 (by decide) ?_
      obtain ⟨h4, hf⟩ := mChk hf
      refine mld1 B hw h4 dX9_names_10 ?_
      refine lv_icmp_ge (tgt := 63) hx hb dX9_names_11 (by decide) (fun c5 => ?_) (fun c5 => ?_)
      · replace hf := mT1 c5 hf
        obtain rfl := Option.some.inj hf
        exact kx _ _ _ hw (lv_sub hl [2] rfl)
      · replace hf := mF1 c5 hf
        refine lv_iload_n hx hb dX9_names_14 rfl (lv_at hl 2 rfl) ?_
        refine lv_aload_n hx hb dX9_names_15 rfl (lv_at hl 0 rfl) ?_
        obtain ⟨x6, e7, hf⟩ := mBind hf
        refine mgr B hw flX9_25 rfl h1 e7 dX9_names_16 ?_
        refine lv_iload_n hx hb dX9_names_19 rfl (lv_at hl 3 rfl) ?_
        obtain ⟨h8, hf⟩ := mChk hf
        refine mld1 B hw h8 dX9_names_20 ?_
        refine lv_iload_n hx hb dX9_names_21 rfl (lv_at hl 3 rfl) ?_
        refine lv_icmp_ne (tgt := 51) hx hb dX9_names_22 (by decide) (fun c9 => ?_) (fun c9 => ?_)
        · replace hf := mF1 c9 hf
          refine lv_iconst (v := (0 : Int32)) hx hb dX9_names_51 (by decide) ?_
          obtain ⟨z10, e11, hf⟩ := mBind hf
          refine mcallS (rest := [.int v2]) B hw [.int (mb false)] clX9_102 (r_X9_one l g K n hJ hO false I0 J0 R0 z10 e11) ⟨rfl, rfl, Nat.le_of_ble_eq_true rfl, Nat.le_of_ble_eq_true rfl⟩ rfl hl.1 (Nat.le_of_ble_eq_true rfl) ⟨Nat.zero_le _, Nat.zero_le _⟩ dX9_names_52 (fun H locs hw => ?_)
          refine W.eq (g2 := F0 m 55 ls [.int z10, .int v2]) rfl ?_
          refine lv_iadd hx hb dX9_names_55 ?_
          refine lv_istore_n (lv' := [(2, .int (v2 + z10)), (0, .ref (g.2.1 v0)), (1, .int (mb v1)), (3, .int v3)]) hx hb dX9_names_56 rfl hl (by decide) rfl (fun ls hl => ?_)
          refine lv_iinc (v := (v3 + (1 : Int32))) (lv' := [(3, .int (v3 + (1 : Int32))), (2, .int (v2 + z10)), (0, .ref (g.2.1 v0)), (1, .int (mb v1))]) hx hb dX9_names_57 hl (k := 3) rfl rfl (by decide) rfl (fun ls hl => ?_)
          refine lv_goto (tgt := 4) hx hb dX9_names_60 (by decide) ?_
          exact ih v0 v1 (v2 + z10) (v3 + (1 : Int32)) z _ _ _ hf hw (lv_sub hl [2, 3, 1, 0] rfl) kx
        · replace hf := mT1 c9 hf
          refine lv_aload_n hx hb dX9_names_25 rfl (lv_at hl 0 rfl) ?_
          obtain ⟨x12, e13, hf⟩ := mBind hf
          refine mgr B hw flX9_28 rfl h1 e13 dX9_names_26 ?_
          refine lv_iload_n hx hb dX9_names_29 rfl (lv_at hl 3 rfl) ?_
          obtain ⟨h14, hf⟩ := mChk hf
          refine mld1 B hw h14 dX9_names_30 ?_
          refine lv_iconst (v := (-1 : Int32)) hx hb dX9_names_31 (by decide) ?_
          refine lv_icmp_eq (tgt := 51) hx hb dX9_names_32 (by decide) (fun c15 => ?_) (fun c15 => ?_)
          · replace hf := mT1 c15 hf
            refine lv_iconst (v := (0 : Int32)) hx hb dX9_names_51 (by decide) ?_
            obtain ⟨z16, e17, hf⟩ := mBind hf
            refine mcallS (rest := [.int v2]) B hw [.int (mb false)] clX9_102 (r_X9_one l g K n hJ hO false I0 J0 R0 z16 e17) ⟨rfl, rfl, Nat.le_of_ble_eq_true rfl, Nat.le_of_ble_eq_true rfl⟩ rfl hl.1 (Nat.le_of_ble_eq_true rfl) ⟨Nat.zero_le _, Nat.zero_le _⟩ dX9_names_52 (fun H locs hw => ?_)
            refine W.eq (g2 := F0 m 55 ls [.int z16, .int v2]) rfl ?_
            refine lv_iadd hx hb dX9_names_55 ?_
            refine lv_istore_n (lv' := [(2, .int (v2 + z16)), (0, .ref (g.2.1 v0)), (1, .int (mb v1)), (3, .int v3)]) hx hb dX9_names_56 rfl hl (by decide) rfl (fun ls hl => ?_)
            refine lv_iinc (v := (v3 + (1 : Int32))) (lv' := [(3, .int (v3 + (1 : Int32))), (2, .int (v2 + z16)), (0, .ref (g.2.1 v0)), (1, .int (mb v1))]) hx hb dX9_names_57 hl (k := 3) rfl rfl (by decide) rfl (fun ls hl => ?_)
            refine lv_goto (tgt := 4) hx hb dX9_names_60 (by decide) ?_
            exact ih v0 v1 (v2 + z16) (v3 + (1 : Int32)) z _ _ _ hf hw (lv_sub hl [2, 3, 1, 0] rfl) kx
          · replace hf := mF1 c15 hf
            refine lv_iload_n hx hb dX9_names_35 rfl (lv_at hl 1 rfl) ?_
            refine lv_if_eq (tgt := 47) hx hb dX9_names_36 (by decide) (fun c18 => ?_) (fun c18 => ?_)
            · replace hf := mT1 c18 hf
              refine lv_iconst (v := (1 : Int32)) hx hb dX9_names_47 (by decide) ?_
              refine lv_goto (tgt := 52) hx hb dX9_names_48 (by decide) ?_
              obtain ⟨z19, e20, hf⟩ := mBind hf
              refine mcallS (rest := [.int v2]) B hw [.int (mb true)] clX9_102 (r_X9_one l g K n hJ hO true I0 J0 R0 z19 e20) ⟨rfl, rfl, Nat.le_of_ble_eq_true rfl, Nat.le_of_ble_eq_true rfl⟩ rfl hl.1 (Nat.le_of_ble_eq_true rfl) ⟨Nat.zero_le _, Nat.zero_le _⟩ dX9_names_52 (fun H locs hw => ?_)
              refine W.eq (g2 := F0 m 55 ls [.int z19, .int v2]) rfl ?_
              refine lv_iadd hx hb dX9_names_55 ?_
              refine lv_istore_n (lv' := [(2, .int (v2 + z19)), (0, .ref (g.2.1 v0)), (1, .int (mb v1)), (3, .int v3)]) hx hb dX9_names_56 rfl hl (by decide) rfl (fun ls hl => ?_)
              refine lv_iinc (v := (v3 + (1 : Int32))) (lv' := [(3, .int (v3 + (1 : Int32))), (2, .int (v2 + z19)), (0, .ref (g.2.1 v0)), (1, .int (mb v1))]) hx hb dX9_names_57 hl (k := 3) rfl rfl (by decide) rfl (fun ls hl => ?_)
              refine lv_goto (tgt := 4) hx hb dX9_names_60 (by decide) ?_
              exact ih v0 v1 (v2 + z19) (v3 + (1 : Int32)) z _ _ _ hf hw (lv_sub hl [2, 3, 1, 0] rfl) kx
            · replace hf := mF1 c18 hf
              refine lv_aload_n hx hb dX9_names_39 rfl (lv_at hl 0 rfl) ?_
              refine lv_iload_n hx hb dX9_names_40 rfl (lv_at hl 3 rfl) ?_
              obtain ⟨z21, e22, hf⟩ := mBind hf
              refine mcallV (rest := [.int v2]) (ci := 9) B hw [.int v3] clX9_151 rfl h1 (r_X9_isDoubted l g K n hJ hO v0 v3 I0 J0 R0 z21 e22) ⟨rfl, rfl, Nat.le_of_ble_eq_true rfl, Nat.le_of_ble_eq_true rfl⟩ rfl hl.1 (Nat.le_of_ble_eq_true rfl) ⟨Nat.zero_le _, Nat.zero_le _⟩ dX9_names_41 (fun H locs hw => ?_)
              refine W.eq (g2 := F0 m 44 ls [.int (mb z21), .int v2]) rfl ?_
              refine lv_if_eq (tgt := 51) hx hb dX9_names_44 (by decide) (fun c23 => ?_) (fun c23 => ?_)
              · replace hf := mT1 c23 hf
                refine lv_iconst (v := (0 : Int32)) hx hb dX9_names_51 (by decide) ?_
                obtain ⟨z24, e25, hf⟩ := mBind hf
                refine mcallS (rest := [.int v2]) B hw [.int (mb false)] clX9_102 (r_X9_one l g K n hJ hO false I0 J0 R0 z24 e25) ⟨rfl, rfl, Nat.le_of_ble_eq_true rfl, Nat.le_of_ble_eq_true rfl⟩ rfl hl.1 (Nat.le_of_ble_eq_true rfl) ⟨Nat.zero_le _, Nat.zero_le _⟩ dX9_names_52 (fun H locs hw => ?_)
                refine W.eq (g2 := F0 m 55 ls [.int z24, .int v2]) rfl ?_
                refine lv_iadd hx hb dX9_names_55 ?_
                refine lv_istore_n (lv' := [(2, .int (v2 + z24)), (0, .ref (g.2.1 v0)), (1, .int (mb v1)), (3, .int v3)]) hx hb dX9_names_56 rfl hl (by decide) rfl (fun ls hl => ?_)
                refine lv_iinc (v := (v3 + (1 : Int32))) (lv' := [(3, .int (v3 + (1 : Int32))), (2, .int (v2 + z24)), (0, .ref (g.2.1 v0)), (1, .int (mb v1))]) hx hb dX9_names_57 hl (k := 3) rfl rfl (by decide) rfl (fun ls hl => ?_)
                refine lv_goto (tgt := 4) hx hb dX9_names_60 (by decide) ?_
                exact ih v0 v1 (v2 + z24) (v3 + (1 : Int32)) z _ _ _ hf hw (lv_sub hl [2, 3, 1, 0] rfl) kx
              · replace hf := mF1 c23 hf
                refine lv_iconst (v := (1 : Int32)) hx hb dX9_names_47 (by decide) ?_
                refine lv_goto (tgt := 52) hx hb dX9_names_48 (by decide) ?_
                obtain ⟨z26, e27, hf⟩ := mBind hf
                refine mcallS (rest := [.int v2]) B hw [.int (mb true)] clX9_102 (r_X9_one l g K n hJ hO true I0 J0 R0 z26 e27) ⟨rfl, rfl, Nat.le_of_ble_eq_true rfl, Nat.le_of_ble_eq_true rfl⟩ rfl hl.1 (Nat.le_of_ble_eq_true rfl) ⟨Nat.zero_le _, Nat.zero_le _⟩ dX9_names_52 (fun H locs hw => ?_)
                refine W.eq (g2 := F0 m 55 ls [.int z26, .int v2]) rfl ?_
                refine lv_iadd hx hb dX9_names_55 ?_
                refine lv_istore_n (lv' := [(2, .int (v2 + z26)), (0, .ref (g.2.1 v0)), (1, .int (mb v1)), (3, .int v3)]) hx hb dX9_names_56 rfl hl (by decide) rfl (fun ls hl => ?_)
                refine lv_iinc (v := (v3 + (1 : Int32))) (lv' := [(3, .int (v3 + (1 : Int32))), (2, .int (v2 + z26)), (0, .ref (g.2.1 v0)), (1, .int (mb v1))]) hx hb dX9_names_57 hl (k := 3) rfl rfl (by decide) rfl (fun ls hl => ?_)
                refine lv_goto (tgt := 4) hx hb dX9_names_60 (by decide) ?_
                exact ih v0 v1 (v2 + z26) (v3 + (1 : Int32)) z _ _ _ hf hw (lv_sub hl [2, 3, 1, 0] rfl) kx
  refine lv_iconst (v := (0 : Int32)) hx hb dX9_names_0 (by decide) ?_
  refine lv_istore_n (lv' := [(2, .int (0 : Int32)), (0, .ref (g.2.1 a0)), (1, .int (mb a1))]) hx hb dX9_names_1 rfl hl (by decide) rfl (fun ls hl => ?_)
  refine lv_iconst (v := (0 : Int32)) hx hb dX9_names_2 (by decide) ?_
  refine lv_istore_n (lv' := [(3, .int (0 : Int32)), (2, .int (0 : Int32)), (0, .ref (g.2.1 a0)), (1, .int (mb a1))]) hx hb dX9_names_3 rfl hl (by decide) rfl (fun ls hl => ?_)
  obtain ⟨z28, e29, hf⟩ := mBind hf
  refine L4 8192 a0 a1 (0 : Int32) (0 : Int32) z28 _ _ _ e29 hw (lv_sub hl [2, 3, 1, 0] rfl) (fun H locs ls hw hl => ?_)
  refine lv_iload_n hx hb dX9_names_63 rfl (lv_at hl 0 rfl) ?_
  rw [hQm, ← Option.some.inj hf]
  exact mri hx hb hr hlk hw dX9_names_64
def f_X9_alone_L19 (K : mK) (v0 : Nat) (I : mI) (J0 : mJ) (R0 : mR) : Nat → Int32 → Int32 → Option Int32
  | 0, _, _ => none
  | N + 1, v1, v2 =>
  if K v0 = (0, 9) then
  (R0 v0 0).bind fun x2 =>
  if mIx K x2 1 (1 : Int32) then
  if (I x2 ((1 : Int32)).toNatClampNeg) ≤ v2 then
  some v1
  else
  (R0 v0 9).bind fun x6 =>
  if mIx K x6 1 v2 then
  if (I x6 (v2).toNatClampNeg) = (-1 : Int32) then
  (f_X9_one K false I J0 R0).bind fun z10 =>
  f_X9_alone_L19 K v0 I J0 R0 N (v1 - z10) (v2 + (1 : Int32))
  else
  (f_X9_one K true I J0 R0).bind fun z12 =>
  f_X9_alone_L19 K v0 I J0 R0 N (v1 - z12) (v2 + (1 : Int32))
  else none
  else none
  else none
def f_X9_alone (K : mK) (a0 : Nat) (I0 : mI) (J0 : mJ) (R0 : mR) : Option (Int32 × mI) :=
  if K a0 = (0, 9) then
  (f_X9_shares K a0 I0 J0 R0).bind fun z15 =>
  (R0 a0 0).bind fun x17 =>
  if mIx K x17 1 (0 : Int32) then
  (f_X9_names K a0 false z15 J0 R0).bind fun z20 =>
  (f_X9_alone_L19 K a0 z15 J0 R0 8192 ((z15 x17 ((0 : Int32)).toNatClampNeg) - z20) (0 : Int32)).bind fun z22 =>
  some (z22, z15)
  else none
  else none
set_option maxHeartbeats 4000000 in
set_option maxRecDepth 100000 in
theorem r_X9_alone (l : Launch) (g : mG) (K : mK) (n : Nat) (hJ : mInj g n) (hO : mOk K n) (a0 : Nat) (I0 : mI) (J0 : mJ) (R0 : mR) (out : (Int32 × mI)) (hf : f_X9_alone K a0 I0 J0 R0 = some out) : Met l yX9_alone (mWs yX9_alone cX9_alone 3 (some .int)) ({ frames := 6, cells := 0, slots := 0, locals := 142 }) (va_Pc [.ref (g.2.1 a0)] (mB g K n I0 J0 R0)) (mQ g K n (some (.int out.1)) out.2 J0 R0) 0 0 (mA g n) := by
  unfold f_X9_alone at hf
  refine mStart RX9 hJ hO (by decide) rfl (Nat.le_of_ble_eq_true rfl) ?_
  intro p e s m below meth c ls Qm hQm B hr hlk hw hl
  have hx := B.1.1
  have hb := B.1.2.1
  have hl : lv_has ls 3 [(0, .ref (g.2.1 a0))] := hl
  have L19 : ∀ (N : Nat) (v0 : Nat) (v1 : Int32) (v2 : Int32) (I : mI) (z : Int32) (H : Heap) (locs : List Loc) (ls : Array Slot), f_X9_alone_L19 K v0 I J0 R0 N v1 v2 = some z → mHp g K n s I J0 R0 H locs → lv_has ls 3 [(0, .ref (g.2.1 v0)), (1, .int v1), (2, .int v2)] → (∀ (H : Heap) (locs : List Loc) (ls : Array Slot), mHp g K n s I J0 R0 H locs → lv_has ls 3 [(1, .int z)] → W p l e ({ frames := 6, cells := 0, slots := 0, locals := 142 } : Room) s m ([.ref (g.2.1 a0)] : List Value).toArray below meth c H locs 0 0 Qm (F0 m 56 ls [])) → W p l e ({ frames := 6, cells := 0, slots := 0, locals := 142 } : Room) s m ([.ref (g.2.1 a0)] : List Value).toArray below meth c H locs 0 0 Qm (F0 m 19 ls []) := by
    intro N
    induction N with
    | zero =>
      intro v0 v1 v2 I z H locs ls hf hw hl kx
      rw [f_X9_alone_L19] at hf
      cases hf
    | succ N ih =>
      intro v0 v1 v2 I z H locs ls hf hw hl kx
      rw [f_X9_alone_L19] at hf
      refine lv_iload_n hx hb dX9_alone_19 rfl (lv_at hl 2 rfl) ?_
      refine lv_aload_n hx hb dX9_alone_20 rfl (lv_at hl 0 rfl) ?_
      obtain ⟨h1, hf⟩ := mChk hf
      obtain ⟨x2, e3, hf⟩ := mBind hf
      refine mgr B hw flX9_7 rfl h1 e3 dX9_alone_21 ?_
      refine lv_iconst (v := (1 : Int32)) hx hb dX9_alone_24 (by decide) ?_
      obtain ⟨h4, hf⟩ := mChk hf
      refine mld1 B hw h4 dX9_alone_25 ?_
      refine lv_icmp_ge (tgt := 56) hx hb dX9_alone_26 (by decide) (fun c5 => ?_) (fun c5 => ?_)
      · replace hf := mT1 c5 hf
        obtain rfl := Option.some.inj hf
        exact kx _ _ _ hw (lv_sub hl [1] rfl)
      · replace hf := mF1 c5 hf
        refine lv_iload_n hx hb dX9_alone_29 rfl (lv_at hl 1 rfl) ?_
        refine lv_aload_n hx hb dX9_alone_30 rfl (lv_at hl 0 rfl) ?_
        obtain ⟨x6, e7, hf⟩ := mBind hf
        refine mgr B hw flX9_38 rfl h1 e7 dX9_alone_31 ?_
        refine lv_iload_n hx hb dX9_alone_34 rfl (lv_at hl 2 rfl) ?_
        obtain ⟨h8, hf⟩ := mChk hf
        refine mld1 B hw h8 dX9_alone_35 ?_
        refine lv_iconst (v := (-1 : Int32)) hx hb dX9_alone_36 (by decide) ?_
        refine lv_icmp_eq (tgt := 44) hx hb dX9_alone_37 (by decide) (fun c9 => ?_) (fun c9 => ?_)
        · replace hf := mT1 c9 hf
          refine lv_iconst (v := (0 : Int32)) hx hb dX9_alone_44 (by decide) ?_
          obtain ⟨z10, e11, hf⟩ := mBind hf
          refine mcallS (rest := [.int v1]) B hw [.int (mb false)] clX9_102 (r_X9_one l g K n hJ hO false I J0 R0 z10 e11) ⟨rfl, rfl, Nat.le_of_ble_eq_true rfl, Nat.le_of_ble_eq_true rfl⟩ rfl hl.1 (Nat.le_of_ble_eq_true rfl) ⟨Nat.zero_le _, Nat.zero_le _⟩ dX9_alone_45 (fun H locs hw => ?_)
          refine W.eq (g2 := F0 m 48 ls [.int z10, .int v1]) rfl ?_
          refine lv_isub hx hb dX9_alone_48 ?_
          refine lv_istore_n (lv' := [(1, .int (v1 - z10)), (0, .ref (g.2.1 v0)), (2, .int v2)]) hx hb dX9_alone_49 rfl hl (by decide) rfl (fun ls hl => ?_)
          refine lv_iinc (v := (v2 + (1 : Int32))) (lv' := [(2, .int (v2 + (1 : Int32))), (1, .int (v1 - z10)), (0, .ref (g.2.1 v0))]) hx hb dX9_alone_50 hl (k := 2) rfl rfl (by decide) rfl (fun ls hl => ?_)
          refine lv_goto (tgt := 19) hx hb dX9_alone_53 (by decide) ?_
          exact ih v0 (v1 - z10) (v2 + (1 : Int32)) I z _ _ _ hf hw (lv_sub hl [2, 1, 0] rfl) kx
        · replace hf := mF1 c9 hf
          refine lv_iconst (v := (1 : Int32)) hx hb dX9_alone_40 (by decide) ?_
          refine lv_goto (tgt := 45) hx hb dX9_alone_41 (by decide) ?_
          obtain ⟨z12, e13, hf⟩ := mBind hf
          refine mcallS (rest := [.int v1]) B hw [.int (mb true)] clX9_102 (r_X9_one l g K n hJ hO true I J0 R0 z12 e13) ⟨rfl, rfl, Nat.le_of_ble_eq_true rfl, Nat.le_of_ble_eq_true rfl⟩ rfl hl.1 (Nat.le_of_ble_eq_true rfl) ⟨Nat.zero_le _, Nat.zero_le _⟩ dX9_alone_45 (fun H locs hw => ?_)
          refine W.eq (g2 := F0 m 48 ls [.int z12, .int v1]) rfl ?_
          refine lv_isub hx hb dX9_alone_48 ?_
          refine lv_istore_n (lv' := [(1, .int (v1 - z12)), (0, .ref (g.2.1 v0)), (2, .int v2)]) hx hb dX9_alone_49 rfl hl (by decide) rfl (fun ls hl => ?_)
          refine lv_iinc (v := (v2 + (1 : Int32))) (lv' := [(2, .int (v2 + (1 : Int32))), (1, .int (v1 - z12)), (0, .ref (g.2.1 v0))]) hx hb dX9_alone_50 hl (k := 2) rfl rfl (by decide) rfl (fun ls hl => ?_)
          refine lv_goto (tgt := 19) hx hb dX9_alone_53 (by decide) ?_
          exact ih v0 (v1 - z12) (v2 + (1 : Int32)) I z _ _ _ hf hw (lv_sub hl [2, 1, 0] rfl) kx
  refine lv_aload_n hx hb dX9_alone_0 rfl (lv_at hl 0 rfl) ?_
  obtain ⟨h14, hf⟩ := mChk hf
  obtain ⟨z15, e16, hf⟩ := mBind hf
  refine mcallV (rest := []) (ci := 9) B hw [] clX9_136 rfl h14 (r_X9_shares l g K n hJ hO a0 I0 J0 R0 z15 e16) ⟨rfl, rfl, Nat.le_of_ble_eq_true rfl, Nat.le_of_ble_eq_true rfl⟩ rfl hl.1 (Nat.le_of_ble_eq_true rfl) ⟨Nat.zero_le _, Nat.zero_le _⟩ dX9_alone_1 (fun H locs hw => ?_)
  refine W.eq (g2 := F0 m 4 ls []) rfl ?_
  refine lv_aload_n hx hb dX9_alone_4 rfl (lv_at hl 0 rfl) ?_
  obtain ⟨x17, e18, hf⟩ := mBind hf
  refine mgr B hw flX9_7 rfl h14 e18 dX9_alone_5 ?_
  refine lv_iconst (v := (0 : Int32)) hx hb dX9_alone_8 (by decide) ?_
  obtain ⟨h19, hf⟩ := mChk hf
  refine mld1 B hw h19 dX9_alone_9 ?_
  refine lv_aload_n hx hb dX9_alone_10 rfl (lv_at hl 0 rfl) ?_
  refine lv_iconst (v := (0 : Int32)) hx hb dX9_alone_11 (by decide) ?_
  obtain ⟨z20, e21, hf⟩ := mBind hf
  refine mcallV (rest := [.int (z15 x17 ((0 : Int32)).toNatClampNeg)]) (ci := 9) B hw [.int (mb false)] clX9_210 rfl h14 (r_X9_names l g K n hJ hO a0 false z15 J0 R0 z20 e21) ⟨rfl, rfl, Nat.le_of_ble_eq_true rfl, Nat.le_of_ble_eq_true rfl⟩ rfl hl.1 (Nat.le_of_ble_eq_true rfl) ⟨Nat.zero_le _, Nat.zero_le _⟩ dX9_alone_12 (fun H locs hw => ?_)
  refine W.eq (g2 := F0 m 15 ls [.int z20, .int (z15 x17 ((0 : Int32)).toNatClampNeg)]) rfl ?_
  refine lv_isub hx hb dX9_alone_15 ?_
  refine lv_istore_n (lv' := [(1, .int ((z15 x17 ((0 : Int32)).toNatClampNeg) - z20)), (0, .ref (g.2.1 a0))]) hx hb dX9_alone_16 rfl hl (by decide) rfl (fun ls hl => ?_)
  refine lv_iconst (v := (0 : Int32)) hx hb dX9_alone_17 (by decide) ?_
  refine lv_istore_n (lv' := [(2, .int (0 : Int32)), (1, .int ((z15 x17 ((0 : Int32)).toNatClampNeg) - z20)), (0, .ref (g.2.1 a0))]) hx hb dX9_alone_18 rfl hl (by decide) rfl (fun ls hl => ?_)
  obtain ⟨z22, e23, hf⟩ := mBind hf
  refine L19 8192 a0 ((z15 x17 ((0 : Int32)).toNatClampNeg) - z20) (0 : Int32) z15 z22 _ _ _ e23 hw (lv_sub hl [2, 1, 0] rfl) (fun H locs ls hw hl => ?_)
  refine lv_iload_n hx hb dX9_alone_56 rfl (lv_at hl 0 rfl) ?_
  rw [hQm, ← Option.some.inj hf]
  exact mri hx hb hr hlk hw dX9_alone_57
def f_X9_count (K : mK) (a0 : Nat) (a1 : Int32) (I0 : mI) (J0 : mJ) (R0 : mR) : Option (Int32 × mI) :=
  if a1 = (0 : Int32) then
  if K a0 = (0, 9) then
  (R0 a0 0).bind fun x2 =>
  if mIx K x2 1 (0 : Int32) then
  some ((I0 x2 ((0 : Int32)).toNatClampNeg), I0)
  else none
  else none
  else if a1 = (1 : Int32) then
  if K a0 = (0, 9) then
  (R0 a0 0).bind fun x6 =>
  if mIx K x6 1 (1 : Int32) then
  some ((I0 x6 ((1 : Int32)).toNatClampNeg), I0)
  else none
  else none
  else if a1 = (2 : Int32) then
  if K a0 = (0, 9) then
  (f_X9_bodies K a0 I0 J0 R0).bind fun z10 =>
  some (z10, I0)
  else none
  else if a1 = (3 : Int32) then
  if K a0 = (0, 9) then
  (f_X9_names K a0 false I0 J0 R0).bind fun z13 =>
  some (z13, I0)
  else none
  else if a1 = (4 : Int32) then
  if K a0 = (0, 9) then
  some ((I0 a0 10), I0)
  else none
  else if a1 = (5 : Int32) then
  if K a0 = (0, 9) then
  (f_X9_names K a0 true I0 J0 R0).bind fun z17 =>
  some (z17, I0)
  else none
  else if a1 = (6 : Int32) then
  if K a0 = (0, 9) then
  (f_X9_alone K a0 I0 J0 R0).bind fun z20 =>
  some (z20.1, z20.2)
  else none
  else if a1 = (7 : Int32) then
  if K a0 = (0, 9) then
  some ((I0 a0 17), I0)
  else none
  else if a1 = (8 : Int32) then
  if K a0 = (0, 9) then
  (R0 a0 14).bind fun x24 =>
  if mIx K x24 1 (18 : Int32) then
  some ((I0 x24 ((18 : Int32)).toNatClampNeg), I0)
  else none
  else none
  else if a1 = (9 : Int32) then
  if K a0 = (0, 9) then
  (R0 a0 14).bind fun x28 =>
  if mIx K x28 1 (19 : Int32) then
  some ((I0 x28 ((19 : Int32)).toNatClampNeg), I0)
  else none
  else none
  else if a1 = (10 : Int32) then
  if K a0 = (0, 9) then
  (R0 a0 14).bind fun x32 =>
  if mIx K x32 1 (20 : Int32) then
  some ((I0 x32 ((20 : Int32)).toNatClampNeg), I0)
  else none
  else none
  else some ((-1 : Int32), I0)
set_option maxHeartbeats 4000000 in
set_option maxRecDepth 100000 in
theorem r_X9_count (l : Launch) (g : mG) (K : mK) (n : Nat) (hJ : mInj g n) (hO : mOk K n) (a0 : Nat) (a1 : Int32) (I0 : mI) (J0 : mJ) (R0 : mR) (out : (Int32 × mI)) (hf : f_X9_count K a0 a1 I0 J0 R0 = some out) : Met l yX9_count (mWs yX9_count cX9_count 2 (some .int)) ({ frames := 7, cells := 0, slots := 0, locals := 164 }) (va_Pc [.ref (g.2.1 a0), .int a1] (mB g K n I0 J0 R0)) (mQ g K n (some (.int out.1)) out.2 J0 R0) 0 0 (mA g n) := by
  unfold f_X9_count at hf
  refine mStart RX9 hJ hO (by decide) rfl (Nat.le_of_ble_eq_true rfl) ?_
  intro p e s m below meth c ls Qm hQm B hr hlk hw hl
  have hx := B.1.1
  have hb := B.1.2.1
  have hl : lv_has ls 2 [(0, .ref (g.2.1 a0)), (1, .int a1)] := hl
  refine lv_iload_n hx hb dX9_count_0 rfl (lv_at hl 1 rfl) ?_
  by_cases k0 : a1 = (0 : Int32)
  · replace hf := mT1 k0 hf
    refine lv_tableIn (off := 59) (tgt := 60) hx hb dX9_count_1 (by rw [k0]; decide) (by rw [k0]; decide) (by rw [k0]; rfl) (by decide) ?_
    refine lv_aload_n hx hb dX9_count_60 rfl (lv_at hl 0 rfl) ?_
    obtain ⟨h1, hf⟩ := mChk hf
    obtain ⟨x2, e3, hf⟩ := mBind hf
    refine mgr B hw flX9_7 rfl h1 e3 dX9_count_61 ?_
    refine lv_iconst (v := (0 : Int32)) hx hb dX9_count_64 (by decide) ?_
    obtain ⟨h4, hf⟩ := mChk hf
    refine mld1 B hw h4 dX9_count_65 ?_
    rw [hQm, ← Option.some.inj hf]
    exact mri hx hb hr hlk hw dX9_count_66
  replace hf := mF1 k0 hf
  by_cases k1 : a1 = (1 : Int32)
  · replace hf := mT1 k1 hf
    refine lv_tableIn (off := 66) (tgt := 67) hx hb dX9_count_1 (by rw [k1]; decide) (by rw [k1]; decide) (by rw [k1]; rfl) (by decide) ?_
    refine lv_aload_n hx hb dX9_count_67 rfl (lv_at hl 0 rfl) ?_
    obtain ⟨h5, hf⟩ := mChk hf
    obtain ⟨x6, e7, hf⟩ := mBind hf
    refine mgr B hw flX9_7 rfl h5 e7 dX9_count_68 ?_
    refine lv_iconst (v := (1 : Int32)) hx hb dX9_count_71 (by decide) ?_
    obtain ⟨h8, hf⟩ := mChk hf
    refine mld1 B hw h8 dX9_count_72 ?_
    rw [hQm, ← Option.some.inj hf]
    exact mri hx hb hr hlk hw dX9_count_73
  replace hf := mF1 k1 hf
  by_cases k2 : a1 = (2 : Int32)
  · replace hf := mT1 k2 hf
    refine lv_tableIn (off := 73) (tgt := 74) hx hb dX9_count_1 (by rw [k2]; decide) (by rw [k2]; decide) (by rw [k2]; rfl) (by decide) ?_
    refine lv_aload_n hx hb dX9_count_74 rfl (lv_at hl 0 rfl) ?_
    obtain ⟨h9, hf⟩ := mChk hf
    obtain ⟨z10, e11, hf⟩ := mBind hf
    refine mcallV (rest := []) (ci := 9) B hw [] clX9_213 rfl h9 (r_X9_bodies l g K n hJ hO a0 I0 J0 R0 z10 e11) ⟨rfl, rfl, Nat.le_of_ble_eq_true rfl, Nat.le_of_ble_eq_true rfl⟩ rfl hl.1 (Nat.le_of_ble_eq_true rfl) ⟨Nat.zero_le _, Nat.zero_le _⟩ dX9_count_75 (fun H locs hw => ?_)
    refine W.eq (g2 := F0 m 78 ls [.int z10]) rfl ?_
    rw [hQm, ← Option.some.inj hf]
    exact mri hx hb hr hlk hw dX9_count_78
  replace hf := mF1 k2 hf
  by_cases k3 : a1 = (3 : Int32)
  · replace hf := mT1 k3 hf
    refine lv_tableIn (off := 78) (tgt := 79) hx hb dX9_count_1 (by rw [k3]; decide) (by rw [k3]; decide) (by rw [k3]; rfl) (by decide) ?_
    refine lv_aload_n hx hb dX9_count_79 rfl (lv_at hl 0 rfl) ?_
    refine lv_iconst (v := (0 : Int32)) hx hb dX9_count_80 (by decide) ?_
    obtain ⟨h12, hf⟩ := mChk hf
    obtain ⟨z13, e14, hf⟩ := mBind hf
    refine mcallV (rest := []) (ci := 9) B hw [.int (mb false)] clX9_210 rfl h12 (r_X9_names l g K n hJ hO a0 false I0 J0 R0 z13 e14) ⟨rfl, rfl, Nat.le_of_ble_eq_true rfl, Nat.le_of_ble_eq_true rfl⟩ rfl hl.1 (Nat.le_of_ble_eq_true rfl) ⟨Nat.zero_le _, Nat.zero_le _⟩ dX9_count_81 (fun H locs hw => ?_)
    refine W.eq (g2 := F0 m 84 ls [.int z13]) rfl ?_
    rw [hQm, ← Option.some.inj hf]
    exact mri hx hb hr hlk hw dX9_count_84
  replace hf := mF1 k3 hf
  by_cases k4 : a1 = (4 : Int32)
  · replace hf := mT1 k4 hf
    refine lv_tableIn (off := 84) (tgt := 85) hx hb dX9_count_1 (by rw [k4]; decide) (by rw [k4]; decide) (by rw [k4]; rfl) (by decide) ?_
    refine lv_aload_n hx hb dX9_count_85 rfl (lv_at hl 0 rfl) ?_
    obtain ⟨h15, hf⟩ := mChk hf
    refine mgi B hw flX9_142 rfl h15 dX9_count_86 ?_
    rw [hQm, ← Option.some.inj hf]
    exact mri hx hb hr hlk hw dX9_count_89
  replace hf := mF1 k4 hf
  by_cases k5 : a1 = (5 : Int32)
  · replace hf := mT1 k5 hf
    refine lv_tableIn (off := 89) (tgt := 90) hx hb dX9_count_1 (by rw [k5]; decide) (by rw [k5]; decide) (by rw [k5]; rfl) (by decide) ?_
    refine lv_aload_n hx hb dX9_count_90 rfl (lv_at hl 0 rfl) ?_
    refine lv_iconst (v := (1 : Int32)) hx hb dX9_count_91 (by decide) ?_
    obtain ⟨h16, hf⟩ := mChk hf
    obtain ⟨z17, e18, hf⟩ := mBind hf
    refine mcallV (rest := []) (ci := 9) B hw [.int (mb true)] clX9_210 rfl h16 (r_X9_names l g K n hJ hO a0 true I0 J0 R0 z17 e18) ⟨rfl, rfl, Nat.le_of_ble_eq_true rfl, Nat.le_of_ble_eq_true rfl⟩ rfl hl.1 (Nat.le_of_ble_eq_true rfl) ⟨Nat.zero_le _, Nat.zero_le _⟩ dX9_count_92 (fun H locs hw => ?_)
    refine W.eq (g2 := F0 m 95 ls [.int z17]) rfl ?_
    rw [hQm, ← Option.some.inj hf]
    exact mri hx hb hr hlk hw dX9_count_95
  replace hf := mF1 k5 hf
  by_cases k6 : a1 = (6 : Int32)
  · replace hf := mT1 k6 hf
    refine lv_tableIn (off := 95) (tgt := 96) hx hb dX9_count_1 (by rw [k6]; decide) (by rw [k6]; decide) (by rw [k6]; rfl) (by decide) ?_
    refine lv_aload_n hx hb dX9_count_96 rfl (lv_at hl 0 rfl) ?_
    obtain ⟨h19, hf⟩ := mChk hf
    obtain ⟨z20, e21, hf⟩ := mBind hf
    refine mcallV (rest := []) (ci := 9) B hw [] clX9_216 rfl h19 (r_X9_alone l g K n hJ hO a0 I0 J0 R0 z20 e21) ⟨rfl, rfl, Nat.le_of_ble_eq_true rfl, Nat.le_of_ble_eq_true rfl⟩ rfl hl.1 (Nat.le_of_ble_eq_true rfl) ⟨Nat.zero_le _, Nat.zero_le _⟩ dX9_count_97 (fun H locs hw => ?_)
    refine W.eq (g2 := F0 m 100 ls [.int z20.1]) rfl ?_
    rw [hQm, ← Option.some.inj hf]
    exact mri hx hb hr hlk hw dX9_count_100
  replace hf := mF1 k6 hf
  by_cases k7 : a1 = (7 : Int32)
  · replace hf := mT1 k7 hf
    refine lv_tableIn (off := 100) (tgt := 101) hx hb dX9_count_1 (by rw [k7]; decide) (by rw [k7]; decide) (by rw [k7]; rfl) (by decide) ?_
    refine lv_aload_n hx hb dX9_count_101 rfl (lv_at hl 0 rfl) ?_
    obtain ⟨h22, hf⟩ := mChk hf
    refine mgi B hw flX9_154 rfl h22 dX9_count_102 ?_
    rw [hQm, ← Option.some.inj hf]
    exact mri hx hb hr hlk hw dX9_count_105
  replace hf := mF1 k7 hf
  by_cases k8 : a1 = (8 : Int32)
  · replace hf := mT1 k8 hf
    refine lv_tableIn (off := 105) (tgt := 106) hx hb dX9_count_1 (by rw [k8]; decide) (by rw [k8]; decide) (by rw [k8]; rfl) (by decide) ?_
    refine lv_aload_n hx hb dX9_count_106 rfl (lv_at hl 0 rfl) ?_
    obtain ⟨h23, hf⟩ := mChk hf
    obtain ⟨x24, e25, hf⟩ := mBind hf
    refine mgr B hw flX9_50 rfl h23 e25 dX9_count_107 ?_
    refine lv_bipush (v := (18 : Int32)) hx hb dX9_count_110 (by decide) ?_
    obtain ⟨h26, hf⟩ := mChk hf
    refine mld1 B hw h26 dX9_count_112 ?_
    rw [hQm, ← Option.some.inj hf]
    exact mri hx hb hr hlk hw dX9_count_113
  replace hf := mF1 k8 hf
  by_cases k9 : a1 = (9 : Int32)
  · replace hf := mT1 k9 hf
    refine lv_tableIn (off := 113) (tgt := 114) hx hb dX9_count_1 (by rw [k9]; decide) (by rw [k9]; decide) (by rw [k9]; rfl) (by decide) ?_
    refine lv_aload_n hx hb dX9_count_114 rfl (lv_at hl 0 rfl) ?_
    obtain ⟨h27, hf⟩ := mChk hf
    obtain ⟨x28, e29, hf⟩ := mBind hf
    refine mgr B hw flX9_50 rfl h27 e29 dX9_count_115 ?_
    refine lv_bipush (v := (19 : Int32)) hx hb dX9_count_118 (by decide) ?_
    obtain ⟨h30, hf⟩ := mChk hf
    refine mld1 B hw h30 dX9_count_120 ?_
    rw [hQm, ← Option.some.inj hf]
    exact mri hx hb hr hlk hw dX9_count_121
  replace hf := mF1 k9 hf
  by_cases k10 : a1 = (10 : Int32)
  · replace hf := mT1 k10 hf
    refine lv_tableIn (off := 121) (tgt := 122) hx hb dX9_count_1 (by rw [k10]; decide) (by rw [k10]; decide) (by rw [k10]; rfl) (by decide) ?_
    refine lv_aload_n hx hb dX9_count_122 rfl (lv_at hl 0 rfl) ?_
    obtain ⟨h31, hf⟩ := mChk hf
    obtain ⟨x32, e33, hf⟩ := mBind hf
    refine mgr B hw flX9_50 rfl h31 e33 dX9_count_123 ?_
    refine lv_bipush (v := (20 : Int32)) hx hb dX9_count_126 (by decide) ?_
    obtain ⟨h34, hf⟩ := mChk hf
    refine mld1 B hw h34 dX9_count_128 ?_
    rw [hQm, ← Option.some.inj hf]
    exact mri hx hb hr hlk hw dX9_count_129
  replace hf := mF1 k10 hf
  refine lv_tableOut (tgt := 130) hx hb dX9_count_1 (mSwOut 10 (by decide) (fun k hk => by
    match k, hk with
    | 0, _ => exact k0
    | 1, _ => exact k1
    | 2, _ => exact k2
    | 3, _ => exact k3
    | 4, _ => exact k4
    | 5, _ => exact k5
    | 6, _ => exact k6
    | 7, _ => exact k7
    | 8, _ => exact k8
    | 9, _ => exact k9
    | 10, _ => exact k10
    | k + 11, h => exact absurd h (by omega))) (by decide) ?_
  refine lv_iconst (v := (-1 : Int32)) hx hb dX9_count_130 (by decide) ?_
  rw [hQm, ← Option.some.inj hf]
  exact mri hx hb hr hlk hw dX9_count_131
