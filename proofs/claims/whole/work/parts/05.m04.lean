def f_X8_points (K : mK) (a0 : Nat) (a1 : Int32) (a2 : Int32) (I0 : mI) (J0 : mJ) (R0 : mR) : Option (Int32 × mI) :=
  if K a0 = (0, 8) then
  (R0 a0 1).bind fun x2 =>
  if K x2 = (0, 0) then
  (f_X0_leaderOf K x2 a1 I0 J0 R0).bind fun z5 =>
  (R0 a0 0).bind fun x7 =>
  if K x7 = (0, 2) then
  (f_X2_find K x7 a2 I0 J0 R0).bind fun z10 =>
  if z5 = (-1 : Int32) then
  some ((-1 : Int32), I0)
  else
  mON z10 (
  some ((-1 : Int32), I0)) (fun x13 =>
  (R0 a0 6).bind fun x14 =>
  (f_X0_gather K x2 z5 x14 I0 J0 R0).bind fun z16 =>
  (R0 a0 8).bind fun x18 =>
  if K x18 = (0, 3) then
  (f_X3_weigh K x18 x14 x13 z16 J0 R0).bind fun z21 =>
  some (z21, z16)
  else none)
  else none
  else none
  else none
set_option maxHeartbeats 4000000 in
set_option maxRecDepth 100000 in
theorem r_X8_points (l : Launch) (g : mG) (K : mK) (n : Nat) (hJ : mInj g n) (hO : mOk K n) (a0 : Nat) (a1 : Int32) (a2 : Int32) (I0 : mI) (J0 : mJ) (R0 : mR) (out : (Int32 × mI)) (hf : f_X8_points K a0 a1 a2 I0 J0 R0 = some out) : Met l yX8_points (mWs yX8_points cX8_points 5 (some .int)) ({ frames := 4, cells := 0, slots := 0, locals := 88 }) (va_Pc [.ref (g.2.1 a0), .int a1, .int a2] (mB g K n I0 J0 R0)) (mQ g K n (some (.int out.1)) out.2 J0 R0) 0 0 (mA g n) := by
  unfold f_X8_points at hf
  refine mStart RX8 hJ hO (by decide) rfl (Nat.le_of_ble_eq_true rfl) ?_
  intro p e s m below meth c ls Qm hQm B hr hlk hw hl
  have hx := B.1.1
  have hb := B.1.2.1
  have hl : lv_has ls 5 [(0, .ref (g.2.1 a0)), (1, .int a1), (2, .int a2)] := hl
  refine lv_aload_n hx hb dX8_points_0 rfl (lv_at hl 0 rfl) ?_
  obtain ⟨h1, hf⟩ := mChk hf
  obtain ⟨x2, e3, hf⟩ := mBind hf
  refine mgr B hw flX8_19 rfl h1 e3 dX8_points_1 ?_
  refine lv_iload_n hx hb dX8_points_4 rfl (lv_at hl 1 rfl) ?_
  obtain ⟨h4, hf⟩ := mChk hf
  obtain ⟨z5, e6, hf⟩ := mBind hf
  refine mcallV (rest := []) (ci := 0) B hw [.int a1] clX8_129 rfl h4 (r_X0_leaderOf l g K n hJ hO x2 a1 I0 J0 R0 z5 e6) ⟨rfl, rfl, Nat.le_of_ble_eq_true rfl, Nat.le_of_ble_eq_true rfl⟩ rfl hl.1 (Nat.le_of_ble_eq_true rfl) ⟨Nat.zero_le _, Nat.zero_le _⟩ dX8_points_5 (fun H locs hw => ?_)
  refine W.eq (g2 := F0 m 8 ls [.int z5]) rfl ?_
  refine lv_istore_n (lv' := [(3, .int z5), (0, .ref (g.2.1 a0)), (1, .int a1), (2, .int a2)]) hx hb dX8_points_8 rfl hl (by decide) rfl (fun ls hl => ?_)
  refine lv_aload_n hx hb dX8_points_9 rfl (lv_at hl 1 rfl) ?_
  obtain ⟨x7, e8, hf⟩ := mBind hf
  refine mgr B hw flX8_10 rfl h1 e8 dX8_points_10 ?_
  refine lv_iload_n hx hb dX8_points_13 rfl (lv_at hl 3 rfl) ?_
  obtain ⟨h9, hf⟩ := mChk hf
  obtain ⟨z10, e11, hf⟩ := mBind hf
  refine mcallV (rest := []) (ci := 2) B hw [.int a2] clX8_118 rfl h9 (r_X2_find l g K n hJ hO x7 a2 I0 J0 R0 z10 e11) ⟨rfl, rfl, Nat.le_of_ble_eq_true rfl, Nat.le_of_ble_eq_true rfl⟩ rfl hl.1 (Nat.le_of_ble_eq_true rfl) ⟨Nat.zero_le _, Nat.zero_le _⟩ dX8_points_14 (fun H locs hw => ?_)
  refine W.eq (g2 := F0 m 17 ls [va_rf (Option.map g.2.1 z10)]) rfl ?_
  refine mso (lv' := [(4, va_rf (Option.map g.2.1 z10)), (3, .int z5), (0, .ref (g.2.1 a0)), (1, .int a1), (2, .int a2)]) hx hb dX8_points_17 hl (by decide) rfl (fun ls hl => ?_)
  refine lv_iload_n hx hb dX8_points_19 rfl (lv_at hl 1 rfl) ?_
  refine lv_iconst (v := (-1 : Int32)) hx hb dX8_points_20 (by decide) ?_
  refine lv_icmp_eq (tgt := 29) hx hb dX8_points_21 (by decide) (fun c12 => ?_) (fun c12 => ?_)
  · replace hf := mT1 c12 hf
    refine lv_iconst (v := (-1 : Int32)) hx hb dX8_points_29 (by decide) ?_
    rw [hQm, ← Option.some.inj hf]
    exact mri hx hb hr hlk hw dX8_points_30
  · replace hf := mF1 c12 hf
    refine mlo hx hb dX8_points_24 (lv_at hl 0 rfl) ?_
    rcases z10 with _ | x13
    · replace hf := mON0 hf
      replace hl : lv_has ls 5 [(4, .null), (3, .int z5), (0, .ref (g.2.1 a0)), (1, .int a1), (2, .int a2)] := hl
      refine W.eq (g2 := F0 m 26 ls [.null]) rfl ?_
      refine lv_ifnonnullN hx hb dX8_points_26 ?_
      refine lv_iconst (v := (-1 : Int32)) hx hb dX8_points_29 (by decide) ?_
      rw [hQm, ← Option.some.inj hf]
      exact mri hx hb hr hlk hw dX8_points_30
    · replace hf := mON1 hf
      replace hl : lv_has ls 5 [(4, .ref (g.2.1 x13)), (3, .int z5), (0, .ref (g.2.1 a0)), (1, .int a1), (2, .int a2)] := hl
      refine W.eq (g2 := F0 m 26 ls [.ref (g.2.1 x13)]) rfl ?_
      refine lv_ifnonnull (tgt := 31) hx hb dX8_points_26 (by decide) ?_
      refine lv_aload_n hx hb dX8_points_31 rfl (lv_at hl 2 rfl) ?_
      refine mgr B hw flX8_19 rfl h1 e3 dX8_points_32 ?_
      refine lv_iload_n hx hb dX8_points_35 rfl (lv_at hl 1 rfl) ?_
      refine lv_aload_n hx hb dX8_points_36 rfl (lv_at hl 2 rfl) ?_
      obtain ⟨x14, e15, hf⟩ := mBind hf
      refine mgr B hw flX8_54 rfl h1 e15 dX8_points_37 ?_
      obtain ⟨z16, e17, hf⟩ := mBind hf
      refine mcallV (rest := []) (ci := 0) B hw [.int z5, .ref (g.2.1 x14)] clX8_132 rfl h4 (r_X0_gather l g K n hJ hO x2 z5 x14 I0 J0 R0 z16 e17) ⟨rfl, rfl, Nat.le_of_ble_eq_true rfl, Nat.le_of_ble_eq_true rfl⟩ rfl hl.1 (Nat.le_of_ble_eq_true rfl) ⟨Nat.zero_le _, Nat.zero_le _⟩ dX8_points_40 (fun H locs hw => ?_)
      refine W.eq (g2 := F0 m 43 ls []) rfl ?_
      refine lv_aload_n hx hb dX8_points_43 rfl (lv_at hl 2 rfl) ?_
      obtain ⟨x18, e19, hf⟩ := mBind hf
      refine mgr B hw flX8_64 rfl h1 e19 dX8_points_44 ?_
      refine lv_aload_n hx hb dX8_points_47 rfl (lv_at hl 2 rfl) ?_
      refine mgr B hw flX8_54 rfl h1 e15 dX8_points_48 ?_
      refine lv_aload hx hb dX8_points_51 (lv_at hl 0 rfl) ?_
      obtain ⟨h20, hf⟩ := mChk hf
      obtain ⟨z21, e22, hf⟩ := mBind hf
      refine mcallV (rest := []) (ci := 3) B hw [.ref (g.2.1 x14), .ref (g.2.1 x13)] clX8_166 rfl h20 (r_X3_weigh l g K n hJ hO x18 x14 x13 z16 J0 R0 z21 e22) ⟨rfl, rfl, Nat.le_of_ble_eq_true rfl, Nat.le_of_ble_eq_true rfl⟩ rfl hl.1 (Nat.le_of_ble_eq_true rfl) ⟨Nat.zero_le _, Nat.zero_le _⟩ dX8_points_53 (fun H locs hw => ?_)
      refine W.eq (g2 := F0 m 56 ls [.int z21]) rfl ?_
      rw [hQm, ← Option.some.inj hf]
      exact mri hx hb hr hlk hw dX8_points_56
def f_X8_pairUp_L157 (K : mK) (v0 : Nat) (J : mJ) (R0 : mR) : Nat → Int32 → mI → Option mI
  | 0, _, _ => none
  | N + 1, v1, I =>
  if (12 : Int32) ≤ v1 then
  some I
  else
  if K v0 = (0, 8) then
  (R0 v0 1).bind fun x3 =>
  if K x3 = (0, 0) then
  (R0 x3 2).bind fun x6 =>
  if mIx K x6 1 v1 then
  if (I x6 (v1).toNatClampNeg) = (-1 : Int32) then
  f_X8_pairUp_L157 K v0 J R0 N (v1 + (1 : Int32)) I
  else
  (R0 v0 3).bind fun x10 =>
  if K x10 = (0, 4) then
  (R0 x10 1).bind fun x13 =>
  if mIx K x13 1 v1 then
  (some (mup I x13 (v1).toNatClampNeg (I x6 (v1).toNatClampNeg))).bind fun I16 =>
  f_X8_pairUp_L157 K v0 J R0 N (v1 + (1 : Int32)) I16
  else none
  else none
  else none
  else none
  else none
def f_X8_pairUp_L56 (K : mK) (v0 : Nat) (v1 : Int32) (v2 : Bool) (J : mJ) (R0 : mR) : Nat → Int32 → mI → Option mI
  | 0, _, _ => none
  | N + 1, v3, I =>
  if (12 : Int32) ≤ v3 then
  some I
  else
  if K v0 = (0, 8) then
  (R0 v0 0).bind fun x20 =>
  if K x20 = (0, 2) then
  (f_X2_find K x20 v3 I J R0).bind fun z23 =>
  if (mb v2) = 0 then
  (R0 v0 3).bind fun x26 =>
  if K x26 = (0, 4) then
  (R0 x26 0).bind fun x29 =>
  if mIx K x29 6 v1 then
  (R0 x29 (v1).toNatClampNeg).bind fun x32 =>
  if mIx K x32 1 v3 then
  (some (mup I x32 (v3).toNatClampNeg (0 : Int32))).bind fun I36 =>
  f_X8_pairUp_L56 K v0 v1 v2 J R0 N (v3 + (1 : Int32)) I36
  else none
  else none
  else none
  else
  mON z23 (
  (R0 v0 3).bind fun x39 =>
  if K x39 = (0, 4) then
  (R0 x39 0).bind fun x42 =>
  if mIx K x42 6 v1 then
  (R0 x42 (v1).toNatClampNeg).bind fun x45 =>
  if mIx K x45 1 v3 then
  (some (mup I x45 (v3).toNatClampNeg (0 : Int32))).bind fun I49 =>
  f_X8_pairUp_L56 K v0 v1 v2 J R0 N (v3 + (1 : Int32)) I49
  else none
  else none
  else none) (fun x38 =>
  (R0 v0 1).bind fun x51 =>
  if K x51 = (0, 0) then
  (f_X0_hasGiven K x51 v3 I J R0).bind fun z54 =>
  if (mb z54) = 0 then
  (R0 v0 3).bind fun x69 =>
  if K x69 = (0, 4) then
  (R0 x69 0).bind fun x72 =>
  if mIx K x72 6 v1 then
  (R0 x72 (v1).toNatClampNeg).bind fun x75 =>
  (R0 v0 8).bind fun x78 =>
  (R0 v0 6).bind fun x80 =>
  if K x78 = (0, 3) then
  (f_X3_weigh K x78 x80 x38 I J R0).bind fun z83 =>
  if mIx K x75 1 v3 then
  (some (mup I x75 (v3).toNatClampNeg (imax (0 : Int32) z83))).bind fun I86 =>
  f_X8_pairUp_L56 K v0 v1 v2 J R0 N (v3 + (1 : Int32)) I86
  else none
  else none
  else none
  else none
  else
  (R0 v0 3).bind fun x57 =>
  if K x57 = (0, 4) then
  (R0 x57 0).bind fun x60 =>
  if mIx K x60 6 v1 then
  (R0 x60 (v1).toNatClampNeg).bind fun x63 =>
  if mIx K x63 1 v3 then
  (some (mup I x63 (v3).toNatClampNeg (0 : Int32))).bind fun I67 =>
  f_X8_pairUp_L56 K v0 v1 v2 J R0 N (v3 + (1 : Int32)) I67
  else none
  else none
  else none
  else none)
  else none
  else none
def f_X8_pairUp_L2 (K : mK) (v0 : Nat) (J : mJ) (R0 : mR) : Nat → Int32 → mI → Option mI
  | 0, _, _ => none
  | N + 1, v1, I =>
  if (12 : Int32) ≤ v1 then
  some I
  else
  if K v0 = (0, 8) then
  (R0 v0 1).bind fun x90 =>
  if K x90 = (0, 0) then
  (f_X0_leads K x90 v1 I J R0).bind fun z93 =>
  if (mb z93) = 0 then
  (f_X8_pairUp_L56 K v0 v1 false J R0 8192 (0 : Int32) I).bind fun z97 =>
  f_X8_pairUp_L2 K v0 J R0 N (v1 + (1 : Int32)) z97
  else
  (R0 x90 2).bind fun x99 =>
  if mIx K x99 1 v1 then
  if (I x99 (v1).toNatClampNeg) = (-1 : Int32) then
  (R0 v0 6).bind fun x107 =>
  (f_X0_gather K x90 v1 x107 I J R0).bind fun z109 =>
  (f_X8_pairUp_L56 K v0 v1 true J R0 8192 (0 : Int32) z109).bind fun z111 =>
  f_X8_pairUp_L2 K v0 J R0 N (v1 + (1 : Int32)) z111
  else
  (f_X8_pairUp_L56 K v0 v1 false J R0 8192 (0 : Int32) I).bind fun z104 =>
  f_X8_pairUp_L2 K v0 J R0 N (v1 + (1 : Int32)) z104
  else none
  else none
  else none
def f_X8_pairUp (K : mK) (a0 : Nat) (I0 : mI) (J0 : mJ) (R0 : mR) : Option (mI × mJ) :=
  (f_X8_pairUp_L2 K a0 J0 R0 8192 (0 : Int32) I0).bind fun z113 =>
  if K a0 = (0, 8) then
  (R0 a0 3).bind fun x116 =>
  if K x116 = (0, 4) then
  (f_X4_settle K x116 z113 J0 R0).bind fun z119 =>
  (f_X8_pairUp_L157 K a0 z119.2 R0 8192 (0 : Int32) z119.1).bind fun z121 =>
  some (z121, z119.2)
  else none
  else none
set_option maxHeartbeats 4000000 in
set_option maxRecDepth 100000 in
theorem r_X8_pairUp (l : Launch) (g : mG) (K : mK) (n : Nat) (hJ : mInj g n) (hO : mOk K n) (a0 : Nat) (I0 : mI) (J0 : mJ) (R0 : mR) (out : (mI × mJ)) (hf : f_X8_pairUp K a0 I0 J0 R0 = some out) : Met l yX8_pairUp (mWs yX8_pairUp cX8_pairUp 6 none) ({ frames := 4, cells := 0, slots := 0, locals := 88 }) (va_Pc [.ref (g.2.1 a0)] (mB g K n I0 J0 R0)) (mQ g K n none out.1 out.2 R0) 0 0 (mA g n) := by
  unfold f_X8_pairUp at hf
  refine mStart RX8 hJ hO (by decide) rfl (Nat.le_of_ble_eq_true rfl) ?_
  intro p e s m below meth c ls Qm hQm B hr hlk hw hl
  have hx := B.1.1
  have hb := B.1.2.1
  have hl : lv_has ls 6 [(0, .ref (g.2.1 a0))] := hl
  have L157 : ∀ (N : Nat) (v0 : Nat) (v1 : Int32) (I : mI) (J : mJ) (z : mI) (H : Heap) (locs : List Loc) (ls : Array Slot), f_X8_pairUp_L157 K v0 J R0 N v1 I = some z → mHp g K n s I J R0 H locs → lv_has ls 6 [(0, .ref (g.2.1 v0)), (1, .int v1)] → (∀ (H : Heap) (locs : List Loc) (ls : Array Slot), mHp g K n s z J R0 H locs → lv_has ls 6 [] → W p l e ({ frames := 4, cells := 0, slots := 0, locals := 88 } : Room) s m ([.ref (g.2.1 a0)] : List Value).toArray below meth c H locs 0 0 Qm (F0 m 200 ls [])) → W p l e ({ frames := 4, cells := 0, slots := 0, locals := 88 } : Room) s m ([.ref (g.2.1 a0)] : List Value).toArray below meth c H locs 0 0 Qm (F0 m 157 ls []) := by
    intro N
    induction N with
    | zero =>
      intro v0 v1 I J z H locs ls hf hw hl kx
      rw [f_X8_pairUp_L157] at hf
      cases hf
    | succ N ih =>
      intro v0 v1 I J z H locs ls hf hw hl kx
      rw [f_X8_pairUp_L157] at hf
      refine lv_iload_n hx hb dX8_pairUp_157 rfl (lv_at hl 1 rfl) ?_
      refine lv_bipush (v := (12 : Int32)) hx hb dX8_pairUp_158 (by decide) ?_
      refine lv_icmp_ge (tgt := 200) hx hb dX8_pairUp_160 (by decide) (fun c1 => ?_) (fun c1 => ?_)
      · replace hf := mT1 c1 hf
        obtain rfl := Option.some.inj hf
        exact kx _ _ _ hw (lv_sub hl [] rfl)
      · replace hf := mF1 c1 hf
        refine lv_aload_n hx hb dX8_pairUp_163 rfl (lv_at hl 0 rfl) ?_
        obtain ⟨h2, hf⟩ := mChk hf
        obtain ⟨x3, e4, hf⟩ := mBind hf
        refine mgr B hw flX8_19 rfl h2 e4 dX8_pairUp_164 ?_
        obtain ⟨h5, hf⟩ := mChk hf
        obtain ⟨x6, e7, hf⟩ := mBind hf
        refine mgr B hw flX8_146 rfl h5 e7 dX8_pairUp_167 ?_
        refine lv_iload_n hx hb dX8_pairUp_170 rfl (lv_at hl 1 rfl) ?_
        obtain ⟨h8, hf⟩ := mChk hf
        refine mld1 B hw h8 dX8_pairUp_171 ?_
        refine lv_iconst (v := (-1 : Int32)) hx hb dX8_pairUp_172 (by decide) ?_
        refine lv_icmp_eq (tgt := 194) hx hb dX8_pairUp_173 (by decide) (fun c9 => ?_) (fun c9 => ?_)
        · replace hf := mT1 c9 hf
          refine lv_iinc (v := (v1 + (1 : Int32))) (lv' := [(1, .int (v1 + (1 : Int32))), (0, .ref (g.2.1 v0))]) hx hb dX8_pairUp_194 hl (k := 1) rfl rfl (by decide) rfl (fun ls hl => ?_)
          refine lv_goto (tgt := 157) hx hb dX8_pairUp_197 (by decide) ?_
          exact ih v0 (v1 + (1 : Int32)) I J z _ _ _ hf hw (lv_sub hl [1, 0] rfl) kx
        · replace hf := mF1 c9 hf
          refine lv_aload_n hx hb dX8_pairUp_176 rfl (lv_at hl 0 rfl) ?_
          obtain ⟨x10, e11, hf⟩ := mBind hf
          refine mgr B hw flX8_33 rfl h2 e11 dX8_pairUp_177 ?_
          obtain ⟨h12, hf⟩ := mChk hf
          obtain ⟨x13, e14, hf⟩ := mBind hf
          refine mgr B hw flX8_177 rfl h12 e14 dX8_pairUp_180 ?_
          refine lv_iload_n hx hb dX8_pairUp_183 rfl (lv_at hl 1 rfl) ?_
          refine lv_aload_n hx hb dX8_pairUp_184 rfl (lv_at hl 0 rfl) ?_
          refine mgr B hw flX8_19 rfl h2 e4 dX8_pairUp_185 ?_
          refine mgr B hw flX8_146 rfl h5 e7 dX8_pairUp_188 ?_
          refine lv_iload_n hx hb dX8_pairUp_191 rfl (lv_at hl 1 rfl) ?_
          refine mld1 B hw h8 dX8_pairUp_192 ?_
          obtain ⟨h15, hf⟩ := mChk hf
          obtain ⟨I16, e17, hf⟩ := mLet hf
          refine mst1 B hw h15 dX8_pairUp_193 (fun H locs hw => ?_)
          rw [← e17] at hw
          refine lv_iinc (v := (v1 + (1 : Int32))) (lv' := [(1, .int (v1 + (1 : Int32))), (0, .ref (g.2.1 v0))]) hx hb dX8_pairUp_194 hl (k := 1) rfl rfl (by decide) rfl (fun ls hl => ?_)
          refine lv_goto (tgt := 157) hx hb dX8_pairUp_197 (by decide) ?_
          exact ih v0 (v1 + (1 : Int32)) I16 J z _ _ _ hf hw (lv_sub hl [1, 0] rfl) kx
  have L56 : ∀ (N : Nat) (v0 : Nat) (v1 : Int32) (v2 : Bool) (v3 : Int32) (I : mI) (J : mJ) (z : mI) (H : Heap) (locs : List Loc) (ls : Array Slot), f_X8_pairUp_L56 K v0 v1 v2 J R0 N v3 I = some z → mHp g K n s I J R0 H locs → lv_has ls 6 [(0, .ref (g.2.1 v0)), (1, .int v1), (2, .int (mb v2)), (3, .int v3)] → (∀ (H : Heap) (locs : List Loc) (ls : Array Slot), mHp g K n s z J R0 H locs → lv_has ls 6 [(0, .ref (g.2.1 v0)), (1, .int v1)] → W p l e ({ frames := 4, cells := 0, slots := 0, locals := 88 } : Room) s m ([.ref (g.2.1 a0)] : List Value).toArray below meth c H locs 0 0 Qm (F0 m 142 ls [])) → W p l e ({ frames := 4, cells := 0, slots := 0, locals := 88 } : Room) s m ([.ref (g.2.1 a0)] : List Value).toArray below meth c H locs 0 0 Qm (F0 m 56 ls []) := by
    intro N
    induction N with
    | zero =>
      intro v0 v1 v2 v3 I J z H locs ls hf hw hl kx
      rw [f_X8_pairUp_L56] at hf
      cases hf
    | succ N ih =>
      intro v0 v1 v2 v3 I J z H locs ls hf hw hl kx
      rw [f_X8_pairUp_L56] at hf
      refine lv_iload_n hx hb dX8_pairUp_56 rfl (lv_at hl 3 rfl) ?_
      refine lv_bipush (v := (12 : Int32)) hx hb dX8_pairUp_57 (by decide) ?_
      refine lv_icmp_ge (tgt := 142) hx hb dX8_pairUp_59 (by decide) (fun c18 => ?_) (fun c18 => ?_)
      · replace hf := mT1 c18 hf
        obtain rfl := Option.some.inj hf
        exact kx _ _ _ hw (lv_sub hl [0, 1] rfl)
      · replace hf := mF1 c18 hf
        refine lv_aload_n hx hb dX8_pairUp_62 rfl (lv_at hl 0 rfl) ?_
        obtain ⟨h19, hf⟩ := mChk hf
        obtain ⟨x20, e21, hf⟩ := mBind hf
        refine mgr B hw flX8_10 rfl h19 e21 dX8_pairUp_63 ?_
        refine lv_iload_n hx hb dX8_pairUp_66 rfl (lv_at hl 3 rfl) ?_
        obtain ⟨h22, hf⟩ := mChk hf
        obtain ⟨z23, e24, hf⟩ := mBind hf
        refine mcallV (rest := []) (ci := 2) B hw [.int v3] clX8_118 rfl h22 (r_X2_find l g K n hJ hO x20 v3 I J R0 z23 e24) ⟨rfl, rfl, Nat.le_of_ble_eq_true rfl, Nat.le_of_ble_eq_true rfl⟩ rfl hl.1 (Nat.le_of_ble_eq_true rfl) ⟨Nat.zero_le _, Nat.zero_le _⟩ dX8_pairUp_67 (fun H locs hw => ?_)
        refine W.eq (g2 := F0 m 70 ls [va_rf (Option.map g.2.1 z23)]) rfl ?_
        refine mso (lv' := [(4, va_rf (Option.map g.2.1 z23)), (0, .ref (g.2.1 v0)), (1, .int v1), (2, .int (mb v2)), (3, .int v3)]) hx hb dX8_pairUp_70 hl (by decide) rfl (fun ls hl => ?_)
        refine lv_iload_n hx hb dX8_pairUp_72 rfl (lv_at hl 3 rfl) ?_
        refine lv_if_eq (tgt := 96) hx hb dX8_pairUp_73 (by decide) (fun c25 => ?_) (fun c25 => ?_)
        · replace hf := mT1 c25 hf
          refine lv_iconst (v := (0 : Int32)) hx hb dX8_pairUp_96 (by decide) ?_
          refine lv_istore (lv' := [(5, .int (0 : Int32)), (4, va_rf (Option.map g.2.1 z23)), (0, .ref (g.2.1 v0)), (1, .int v1), (2, .int (mb v2)), (3, .int v3)]) hx hb dX8_pairUp_97 hl (by decide) (by cases z23 <;> rfl) (fun ls hl => ?_)
          refine lv_aload_n hx hb dX8_pairUp_99 rfl (lv_at hl 2 rfl) ?_
          obtain ⟨x26, e27, hf⟩ := mBind hf
          refine mgr B hw flX8_33 rfl h19 e27 dX8_pairUp_100 ?_
          obtain ⟨h28, hf⟩ := mChk hf
          obtain ⟨x29, e30, hf⟩ := mBind hf
          refine mgr B hw flX8_192 rfl h28 e30 dX8_pairUp_103 ?_
          refine lv_iload_n hx hb dX8_pairUp_106 rfl (lv_at hl 3 rfl) ?_
          obtain ⟨h31, hf⟩ := mChk hf
          obtain ⟨x32, e33, hf⟩ := mBind hf
          refine mld6 B hw h31 e33 dX8_pairUp_107 ?_
          refine lv_iload_n hx hb dX8_pairUp_108 rfl (lv_at hl 5 rfl) ?_
          refine lv_iload hx hb dX8_pairUp_109 (lv_at hl 0 rfl) ?_
          refine lv_if_eq (tgt := 134) hx hb dX8_pairUp_111 (by decide) (fun _ => ?_) (fun c => absurd (by decide) c)
          refine lv_iconst (v := (0 : Int32)) hx hb dX8_pairUp_134 (by decide) ?_
          obtain ⟨h35, hf⟩ := mChk hf
          obtain ⟨I36, e37, hf⟩ := mLet hf
          refine mst1 B hw h35 dX8_pairUp_135 (fun H locs hw => ?_)
          rw [← e37] at hw
          refine lv_iinc (v := (v3 + (1 : Int32))) (lv' := [(3, .int (v3 + (1 : Int32))), (5, .int (0 : Int32)), (4, va_rf (Option.map g.2.1 z23)), (0, .ref (g.2.1 v0)), (1, .int v1), (2, .int (mb v2))]) hx hb dX8_pairUp_136 hl (k := 5) rfl rfl (by decide) rfl (fun ls hl => ?_)
          refine lv_goto (tgt := 56) hx hb dX8_pairUp_139 (by decide) ?_
          exact ih v0 v1 v2 (v3 + (1 : Int32)) I36 J z _ _ _ hf hw (lv_sub hl [3, 4, 5, 0] rfl) kx
        · replace hf := mF1 c25 hf
          refine mlo hx hb dX8_pairUp_76 (lv_at hl 0 rfl) ?_
          rcases z23 with _ | x38
          · replace hf := mON0 hf
            replace hl : lv_has ls 6 [(4, .null), (0, .ref (g.2.1 v0)), (1, .int v1), (2, .int (mb v2)), (3, .int v3)] := hl
            refine W.eq (g2 := F0 m 78 ls [.null]) rfl ?_
            refine lv_ifnullN (tgt := 96) hx hb dX8_pairUp_78 (by decide) ?_
            refine lv_iconst (v := (0 : Int32)) hx hb dX8_pairUp_96 (by decide) ?_
            refine lv_istore (lv' := [(5, .int (0 : Int32)), (4, .null), (0, .ref (g.2.1 v0)), (1, .int v1), (2, .int (mb v2)), (3, .int v3)]) hx hb dX8_pairUp_97 hl (by decide) rfl (fun ls hl => ?_)
            refine lv_aload_n hx hb dX8_pairUp_99 rfl (lv_at hl 2 rfl) ?_
            obtain ⟨x39, e40, hf⟩ := mBind hf
            refine mgr B hw flX8_33 rfl h19 e40 dX8_pairUp_100 ?_
            obtain ⟨h41, hf⟩ := mChk hf
            obtain ⟨x42, e43, hf⟩ := mBind hf
            refine mgr B hw flX8_192 rfl h41 e43 dX8_pairUp_103 ?_
            refine lv_iload_n hx hb dX8_pairUp_106 rfl (lv_at hl 3 rfl) ?_
            obtain ⟨h44, hf⟩ := mChk hf
            obtain ⟨x45, e46, hf⟩ := mBind hf
            refine mld6 B hw h44 e46 dX8_pairUp_107 ?_
            refine lv_iload_n hx hb dX8_pairUp_108 rfl (lv_at hl 5 rfl) ?_
            refine lv_iload hx hb dX8_pairUp_109 (lv_at hl 0 rfl) ?_
            refine lv_if_eq (tgt := 134) hx hb dX8_pairUp_111 (by decide) (fun _ => ?_) (fun c => absurd (by decide) c)
            refine lv_iconst (v := (0 : Int32)) hx hb dX8_pairUp_134 (by decide) ?_
            obtain ⟨h48, hf⟩ := mChk hf
            obtain ⟨I49, e50, hf⟩ := mLet hf
            refine mst1 B hw h48 dX8_pairUp_135 (fun H locs hw => ?_)
            rw [← e50] at hw
            refine lv_iinc (v := (v3 + (1 : Int32))) (lv' := [(3, .int (v3 + (1 : Int32))), (5, .int (0 : Int32)), (4, .null), (0, .ref (g.2.1 v0)), (1, .int v1), (2, .int (mb v2))]) hx hb dX8_pairUp_136 hl (k := 5) rfl rfl (by decide) rfl (fun ls hl => ?_)
            refine lv_goto (tgt := 56) hx hb dX8_pairUp_139 (by decide) ?_
            exact ih v0 v1 v2 (v3 + (1 : Int32)) I49 J z _ _ _ hf hw (lv_sub hl [3, 4, 5, 0] rfl) kx
          · replace hf := mON1 hf
            replace hl : lv_has ls 6 [(4, .ref (g.2.1 x38)), (0, .ref (g.2.1 v0)), (1, .int v1), (2, .int (mb v2)), (3, .int v3)] := hl
            refine W.eq (g2 := F0 m 78 ls [.ref (g.2.1 x38)]) rfl ?_
            refine lv_ifnull hx hb dX8_pairUp_78 ?_
            refine lv_aload_n hx hb dX8_pairUp_81 rfl (lv_at hl 1 rfl) ?_
            obtain ⟨x51, e52, hf⟩ := mBind hf
            refine mgr B hw flX8_19 rfl h19 e52 dX8_pairUp_82 ?_
            refine lv_iload_n hx hb dX8_pairUp_85 rfl (lv_at hl 4 rfl) ?_
            obtain ⟨h53, hf⟩ := mChk hf
            obtain ⟨z54, e55, hf⟩ := mBind hf
            refine mcallV (rest := []) (ci := 0) B hw [.int v3] clX8_246 rfl h53 (r_X0_hasGiven l g K n hJ hO x51 v3 I J R0 z54 e55) ⟨rfl, rfl, Nat.le_of_ble_eq_true rfl, Nat.le_of_ble_eq_true rfl⟩ rfl hl.1 (Nat.le_of_ble_eq_true rfl) ⟨Nat.zero_le _, Nat.zero_le _⟩ dX8_pairUp_86 (fun H locs hw => ?_)
            refine W.eq (g2 := F0 m 89 ls [.int (mb z54)]) rfl ?_
            refine lv_if_ne (tgt := 96) hx hb dX8_pairUp_89 (by decide) (fun c56 => ?_) (fun c56 => ?_)
            · replace hf := mF1 c56 hf
              refine lv_iconst (v := (0 : Int32)) hx hb dX8_pairUp_96 (by decide) ?_
              refine lv_istore (lv' := [(5, .int (0 : Int32)), (4, .ref (g.2.1 x38)), (0, .ref (g.2.1 v0)), (1, .int v1), (2, .int (mb v2)), (3, .int v3)]) hx hb dX8_pairUp_97 hl (by decide) rfl (fun ls hl => ?_)
              refine lv_aload_n hx hb dX8_pairUp_99 rfl (lv_at hl 2 rfl) ?_
              obtain ⟨x57, e58, hf⟩ := mBind hf
              refine mgr B hw flX8_33 rfl h19 e58 dX8_pairUp_100 ?_
              obtain ⟨h59, hf⟩ := mChk hf
              obtain ⟨x60, e61, hf⟩ := mBind hf
              refine mgr B hw flX8_192 rfl h59 e61 dX8_pairUp_103 ?_
              refine lv_iload_n hx hb dX8_pairUp_106 rfl (lv_at hl 3 rfl) ?_
              obtain ⟨h62, hf⟩ := mChk hf
              obtain ⟨x63, e64, hf⟩ := mBind hf
              refine mld6 B hw h62 e64 dX8_pairUp_107 ?_
              refine lv_iload_n hx hb dX8_pairUp_108 rfl (lv_at hl 5 rfl) ?_
              refine lv_iload hx hb dX8_pairUp_109 (lv_at hl 0 rfl) ?_
              refine lv_if_eq (tgt := 134) hx hb dX8_pairUp_111 (by decide) (fun _ => ?_) (fun c => absurd (by decide) c)
              refine lv_iconst (v := (0 : Int32)) hx hb dX8_pairUp_134 (by decide) ?_
              obtain ⟨h66, hf⟩ := mChk hf
              obtain ⟨I67, e68, hf⟩ := mLet hf
              refine mst1 B hw h66 dX8_pairUp_135 (fun H locs hw => ?_)
              rw [← e68] at hw
              refine lv_iinc (v := (v3 + (1 : Int32))) (lv' := [(3, .int (v3 + (1 : Int32))), (5, .int (0 : Int32)), (4, .ref (g.2.1 x38)), (0, .ref (g.2.1 v0)), (1, .int v1), (2, .int (mb v2))]) hx hb dX8_pairUp_136 hl (k := 5) rfl rfl (by decide) rfl (fun ls hl => ?_)
              refine lv_goto (tgt := 56) hx hb dX8_pairUp_139 (by decide) ?_
              exact ih v0 v1 v2 (v3 + (1 : Int32)) I67 J z _ _ _ hf hw (lv_sub hl [3, 4, 5, 0] rfl) kx
            · replace hf := mT1 c56 hf
              refine lv_iconst (v := (1 : Int32)) hx hb dX8_pairUp_92 (by decide) ?_
              refine lv_goto (tgt := 97) hx hb dX8_pairUp_93 (by decide) ?_
              refine lv_istore (lv' := [(5, .int (1 : Int32)), (4, .ref (g.2.1 x38)), (0, .ref (g.2.1 v0)), (1, .int v1), (2, .int (mb v2)), (3, .int v3)]) hx hb dX8_pairUp_97 hl (by decide) rfl (fun ls hl => ?_)
              refine lv_aload_n hx hb dX8_pairUp_99 rfl (lv_at hl 2 rfl) ?_
              obtain ⟨x69, e70, hf⟩ := mBind hf
              refine mgr B hw flX8_33 rfl h19 e70 dX8_pairUp_100 ?_
              obtain ⟨h71, hf⟩ := mChk hf
              obtain ⟨x72, e73, hf⟩ := mBind hf
              refine mgr B hw flX8_192 rfl h71 e73 dX8_pairUp_103 ?_
              refine lv_iload_n hx hb dX8_pairUp_106 rfl (lv_at hl 3 rfl) ?_
              obtain ⟨h74, hf⟩ := mChk hf
              obtain ⟨x75, e76, hf⟩ := mBind hf
              refine mld6 B hw h74 e76 dX8_pairUp_107 ?_
              refine lv_iload_n hx hb dX8_pairUp_108 rfl (lv_at hl 5 rfl) ?_
              refine lv_iload hx hb dX8_pairUp_109 (lv_at hl 0 rfl) ?_
              refine lv_if_eq (tgt := 134) hx hb dX8_pairUp_111 (by decide) (fun c => absurd c (by decide)) (fun _ => ?_)
              refine lv_iconst (v := (0 : Int32)) hx hb dX8_pairUp_114 (by decide) ?_
              refine lv_aload_n hx hb dX8_pairUp_115 rfl (lv_at hl 2 rfl) ?_
              obtain ⟨x78, e79, hf⟩ := mBind hf
              refine mgr B hw flX8_64 rfl h19 e79 dX8_pairUp_116 ?_
              refine lv_aload_n hx hb dX8_pairUp_119 rfl (lv_at hl 2 rfl) ?_
              obtain ⟨x80, e81, hf⟩ := mBind hf
              refine mgr B hw flX8_54 rfl h19 e81 dX8_pairUp_120 ?_
              refine lv_aload hx hb dX8_pairUp_123 (lv_at hl 1 rfl) ?_
              obtain ⟨h82, hf⟩ := mChk hf
              obtain ⟨z83, e84, hf⟩ := mBind hf
              refine mcallV (rest := [.int (0 : Int32), .int v3, .ref (g.2.1 x75)]) (ci := 3) B hw [.ref (g.2.1 x80), .ref (g.2.1 x38)] clX8_166 rfl h82 (r_X3_weigh l g K n hJ hO x78 x80 x38 I J R0 z83 e84) ⟨rfl, rfl, Nat.le_of_ble_eq_true rfl, Nat.le_of_ble_eq_true rfl⟩ rfl hl.1 (Nat.le_of_ble_eq_true rfl) ⟨Nat.zero_le _, Nat.zero_le _⟩ dX8_pairUp_125 (fun H locs hw => ?_)
              refine W.eq (g2 := F0 m 128 ls [.int z83, .int (0 : Int32), .int v3, .ref (g.2.1 x75)]) rfl ?_
              refine mmmax B hl.1 mhX8_115 (Nat.le_of_ble_eq_true rfl) (Nat.le_of_ble_eq_true rfl) (Nat.zero_le _) (Nat.zero_le _) dX8_pairUp_128 ?_
              refine lv_goto (tgt := 135) hx hb dX8_pairUp_131 (by decide) ?_
              obtain ⟨h85, hf⟩ := mChk hf
              obtain ⟨I86, e87, hf⟩ := mLet hf
              refine mst1 B hw h85 dX8_pairUp_135 (fun H locs hw => ?_)
              rw [← e87] at hw
              refine lv_iinc (v := (v3 + (1 : Int32))) (lv' := [(3, .int (v3 + (1 : Int32))), (5, .int (1 : Int32)), (4, .ref (g.2.1 x38)), (0, .ref (g.2.1 v0)), (1, .int v1), (2, .int (mb v2))]) hx hb dX8_pairUp_136 hl (k := 5) rfl rfl (by decide) rfl (fun ls hl => ?_)
              refine lv_goto (tgt := 56) hx hb dX8_pairUp_139 (by decide) ?_
              exact ih v0 v1 v2 (v3 + (1 : Int32)) I86 J z _ _ _ hf hw (lv_sub hl [3, 4, 5, 0] rfl) kx
  have L2 : ∀ (N : Nat) (v0 : Nat) (v1 : Int32) (I : mI) (J : mJ) (z : mI) (H : Heap) (locs : List Loc) (ls : Array Slot), f_X8_pairUp_L2 K v0 J R0 N v1 I = some z → mHp g K n s I J R0 H locs → lv_has ls 6 [(0, .ref (g.2.1 v0)), (1, .int v1)] → (∀ (H : Heap) (locs : List Loc) (ls : Array Slot), mHp g K n s z J R0 H locs → lv_has ls 6 [(0, .ref (g.2.1 v0))] → W p l e ({ frames := 4, cells := 0, slots := 0, locals := 88 } : Room) s m ([.ref (g.2.1 a0)] : List Value).toArray below meth c H locs 0 0 Qm (F0 m 148 ls [])) → W p l e ({ frames := 4, cells := 0, slots := 0, locals := 88 } : Room) s m ([.ref (g.2.1 a0)] : List Value).toArray below meth c H locs 0 0 Qm (F0 m 2 ls []) := by
    intro N
    induction N with
    | zero =>
      intro v0 v1 I J z H locs ls hf hw hl kx
      rw [f_X8_pairUp_L2] at hf
      cases hf
    | succ N ih =>
      intro v0 v1 I J z H locs ls hf hw hl kx
      rw [f_X8_pairUp_L2] at hf
      refine lv_iload_n hx hb dX8_pairUp_2 rfl (lv_at hl 1 rfl) ?_
      refine lv_bipush (v := (12 : Int32)) hx hb dX8_pairUp_3 (by decide) ?_
      refine lv_icmp_ge (tgt := 148) hx hb dX8_pairUp_5 (by decide) (fun c88 => ?_) (fun c88 => ?_)
      · replace hf := mT1 c88 hf
        obtain rfl := Option.some.inj hf
        exact kx _ _ _ hw (lv_sub hl [0] rfl)
      · replace hf := mF1 c88 hf
        refine lv_aload_n hx hb dX8_pairUp_8 rfl (lv_at hl 0 rfl) ?_
        obtain ⟨h89, hf⟩ := mChk hf
        obtain ⟨x90, e91, hf⟩ := mBind hf
        refine mgr B hw flX8_19 rfl h89 e91 dX8_pairUp_9 ?_
        refine lv_iload_n hx hb dX8_pairUp_12 rfl (lv_at hl 1 rfl) ?_
        obtain ⟨h92, hf⟩ := mChk hf
        obtain ⟨z93, e94, hf⟩ := mBind hf
        refine mcallV (rest := []) (ci := 0) B hw [.int v1] clX8_243 rfl h92 (r_X0_leads l g K n hJ hO x90 v1 I J R0 z93 e94) ⟨rfl, rfl, Nat.le_of_ble_eq_true rfl, Nat.le_of_ble_eq_true rfl⟩ rfl hl.1 (Nat.le_of_ble_eq_true rfl) ⟨Nat.zero_le _, Nat.zero_le _⟩ dX8_pairUp_13 (fun H locs hw => ?_)
        refine W.eq (g2 := F0 m 16 ls [.int (mb z93)]) rfl ?_
        refine lv_if_eq (tgt := 36) hx hb dX8_pairUp_16 (by decide) (fun c95 => ?_) (fun c95 => ?_)
        · replace hf := mT1 c95 hf
          refine lv_iconst (v := (0 : Int32)) hx hb dX8_pairUp_36 (by decide) ?_
          refine lv_istore_n (lv' := [(2, .int (0 : Int32)), (0, .ref (g.2.1 v0)), (1, .int v1)]) hx hb dX8_pairUp_37 rfl hl (by decide) rfl (fun ls hl => ?_)
          refine lv_iload_n hx hb dX8_pairUp_38 rfl (lv_at hl 0 rfl) ?_
          refine lv_if_eq (tgt := 54) hx hb dX8_pairUp_39 (by decide) (fun _ => ?_) (fun c => absurd (by decide) c)
          refine lv_iconst (v := (0 : Int32)) hx hb dX8_pairUp_54 (by decide) ?_
          refine lv_istore_n (lv' := [(3, .int (0 : Int32)), (2, .int (0 : Int32)), (0, .ref (g.2.1 v0)), (1, .int v1)]) hx hb dX8_pairUp_55 rfl hl (by decide) rfl (fun ls hl => ?_)
          obtain ⟨z97, e98, hf⟩ := mBind hf
          refine L56 8192 v0 v1 false (0 : Int32) I J z97 _ _ _ e98 hw (lv_sub hl [2, 3, 1, 0] rfl) (fun H locs ls hw hl => ?_)
          refine lv_iinc (v := (v1 + (1 : Int32))) (lv' := [(1, .int (v1 + (1 : Int32))), (0, .ref (g.2.1 v0))]) hx hb dX8_pairUp_142 hl (k := 1) rfl rfl (by decide) rfl (fun ls hl => ?_)
          refine lv_goto (tgt := 2) hx hb dX8_pairUp_145 (by decide) ?_
          exact ih v0 (v1 + (1 : Int32)) z97 J z _ _ _ hf hw (lv_sub hl [1, 0] rfl) kx
        · replace hf := mF1 c95 hf
          refine lv_aload_n hx hb dX8_pairUp_19 rfl (lv_at hl 0 rfl) ?_
          refine mgr B hw flX8_19 rfl h89 e91 dX8_pairUp_20 ?_
          obtain ⟨x99, e100, hf⟩ := mBind hf
          refine mgr B hw flX8_146 rfl h92 e100 dX8_pairUp_23 ?_
          refine lv_iload_n hx hb dX8_pairUp_26 rfl (lv_at hl 1 rfl) ?_
          obtain ⟨h101, hf⟩ := mChk hf
          refine mld1 B hw h101 dX8_pairUp_27 ?_
          refine lv_iconst (v := (-1 : Int32)) hx hb dX8_pairUp_28 (by decide) ?_
          refine lv_icmp_ne (tgt := 36) hx hb dX8_pairUp_29 (by decide) (fun c102 => ?_) (fun c102 => ?_)
          · replace hf := mF1 c102 hf
            refine lv_iconst (v := (0 : Int32)) hx hb dX8_pairUp_36 (by decide) ?_
            refine lv_istore_n (lv' := [(2, .int (0 : Int32)), (0, .ref (g.2.1 v0)), (1, .int v1)]) hx hb dX8_pairUp_37 rfl hl (by decide) rfl (fun ls hl => ?_)
            refine lv_iload_n hx hb dX8_pairUp_38 rfl (lv_at hl 0 rfl) ?_
            refine lv_if_eq (tgt := 54) hx hb dX8_pairUp_39 (by decide) (fun _ => ?_) (fun c => absurd (by decide) c)
            refine lv_iconst (v := (0 : Int32)) hx hb dX8_pairUp_54 (by decide) ?_
            refine lv_istore_n (lv' := [(3, .int (0 : Int32)), (2, .int (0 : Int32)), (0, .ref (g.2.1 v0)), (1, .int v1)]) hx hb dX8_pairUp_55 rfl hl (by decide) rfl (fun ls hl => ?_)
            obtain ⟨z104, e105, hf⟩ := mBind hf
            refine L56 8192 v0 v1 false (0 : Int32) I J z104 _ _ _ e105 hw (lv_sub hl [2, 3, 1, 0] rfl) (fun H locs ls hw hl => ?_)
            refine lv_iinc (v := (v1 + (1 : Int32))) (lv' := [(1, .int (v1 + (1 : Int32))), (0, .ref (g.2.1 v0))]) hx hb dX8_pairUp_142 hl (k := 1) rfl rfl (by decide) rfl (fun ls hl => ?_)
            refine lv_goto (tgt := 2) hx hb dX8_pairUp_145 (by decide) ?_
            exact ih v0 (v1 + (1 : Int32)) z104 J z _ _ _ hf hw (lv_sub hl [1, 0] rfl) kx
          · replace hf := mT1 c102 hf
            refine lv_iconst (v := (1 : Int32)) hx hb dX8_pairUp_32 (by decide) ?_
            refine lv_goto (tgt := 37) hx hb dX8_pairUp_33 (by decide) ?_
            refine lv_istore_n (lv' := [(2, .int (1 : Int32)), (0, .ref (g.2.1 v0)), (1, .int v1)]) hx hb dX8_pairUp_37 rfl hl (by decide) rfl (fun ls hl => ?_)
            refine lv_iload_n hx hb dX8_pairUp_38 rfl (lv_at hl 0 rfl) ?_
            refine lv_if_eq (tgt := 54) hx hb dX8_pairUp_39 (by decide) (fun c => absurd c (by decide)) (fun _ => ?_)
            refine lv_aload_n hx hb dX8_pairUp_42 rfl (lv_at hl 1 rfl) ?_
            refine mgr B hw flX8_19 rfl h89 e91 dX8_pairUp_43 ?_
            refine lv_iload_n hx hb dX8_pairUp_46 rfl (lv_at hl 2 rfl) ?_
            refine lv_aload_n hx hb dX8_pairUp_47 rfl (lv_at hl 1 rfl) ?_
            obtain ⟨x107, e108, hf⟩ := mBind hf
            refine mgr B hw flX8_54 rfl h89 e108 dX8_pairUp_48 ?_
            obtain ⟨z109, e110, hf⟩ := mBind hf
            refine mcallV (rest := []) (ci := 0) B hw [.int v1, .ref (g.2.1 x107)] clX8_132 rfl h92 (r_X0_gather l g K n hJ hO x90 v1 x107 I J R0 z109 e110) ⟨rfl, rfl, Nat.le_of_ble_eq_true rfl, Nat.le_of_ble_eq_true rfl⟩ rfl hl.1 (Nat.le_of_ble_eq_true rfl) ⟨Nat.zero_le _, Nat.zero_le _⟩ dX8_pairUp_51 (fun H locs hw => ?_)
            refine W.eq (g2 := F0 m 54 ls []) rfl ?_
            refine lv_iconst (v := (0 : Int32)) hx hb dX8_pairUp_54 (by decide) ?_
            refine lv_istore_n (lv' := [(3, .int (0 : Int32)), (2, .int (1 : Int32)), (0, .ref (g.2.1 v0)), (1, .int v1)]) hx hb dX8_pairUp_55 rfl hl (by decide) rfl (fun ls hl => ?_)
            obtain ⟨z111, e112, hf⟩ := mBind hf
            refine L56 8192 v0 v1 true (0 : Int32) z109 J z111 _ _ _ e112 hw (lv_sub hl [2, 3, 1, 0] rfl) (fun H locs ls hw hl => ?_)
            refine lv_iinc (v := (v1 + (1 : Int32))) (lv' := [(1, .int (v1 + (1 : Int32))), (0, .ref (g.2.1 v0))]) hx hb dX8_pairUp_142 hl (k := 1) rfl rfl (by decide) rfl (fun ls hl => ?_)
            refine lv_goto (tgt := 2) hx hb dX8_pairUp_145 (by decide) ?_
            exact ih v0 (v1 + (1 : Int32)) z111 J z _ _ _ hf hw (lv_sub hl [1, 0] rfl) kx
  refine lv_iconst (v := (0 : Int32)) hx hb dX8_pairUp_0 (by decide) ?_
  refine lv_istore_n (lv' := [(1, .int (0 : Int32)), (0, .ref (g.2.1 a0))]) hx hb dX8_pairUp_1 rfl hl (by decide) rfl (fun ls hl => ?_)
  obtain ⟨z113, e114, hf⟩ := mBind hf
  refine L2 8192 a0 (0 : Int32) I0 J0 z113 _ _ _ e114 hw (lv_sub hl [1, 0] rfl) (fun H locs ls hw hl => ?_)
  refine lv_aload_n hx hb dX8_pairUp_148 rfl (lv_at hl 0 rfl) ?_
  obtain ⟨h115, hf⟩ := mChk hf
  obtain ⟨x116, e117, hf⟩ := mBind hf
  refine mgr B hw flX8_33 rfl h115 e117 dX8_pairUp_149 ?_
  obtain ⟨h118, hf⟩ := mChk hf
  obtain ⟨z119, e120, hf⟩ := mBind hf
  refine mcallV (rest := []) (ci := 4) B hw [] clX8_249 rfl h118 (r_X4_settle l g K n hJ hO x116 z113 J0 R0 z119 e120) ⟨rfl, rfl, Nat.le_of_ble_eq_true rfl, Nat.le_of_ble_eq_true rfl⟩ rfl hl.1 (Nat.le_of_ble_eq_true rfl) ⟨Nat.zero_le _, Nat.zero_le _⟩ dX8_pairUp_152 (fun H locs hw => ?_)
  refine W.eq (g2 := F0 m 155 ls []) rfl ?_
  refine lv_iconst (v := (0 : Int32)) hx hb dX8_pairUp_155 (by decide) ?_
  refine lv_istore_n (lv' := [(1, .int (0 : Int32)), (0, .ref (g.2.1 a0))]) hx hb dX8_pairUp_156 rfl hl (by decide) rfl (fun ls hl => ?_)
  obtain ⟨z121, e122, hf⟩ := mBind hf
  refine L157 8192 a0 (0 : Int32) z119.1 z119.2 z121 _ _ _ e122 hw (lv_sub hl [1, 0] rfl) (fun H locs ls hw hl => ?_)
  rw [hQm, ← Option.some.inj hf]
  exact mrv hx hb hr hlk hw dX8_pairUp_200
def f_X8_pairing (K : mK) (a0 : Nat) (a1 : Int32) (I0 : mI) (J0 : mJ) (R0 : mR) : Option (Int32 × mI × mJ) :=
  if K a0 = (0, 8) then
  (R0 a0 1).bind fun x2 =>
  if K x2 = (0, 0) then
  (f_X0_leaderOf K x2 a1 I0 J0 R0).bind fun z5 =>
  if a1 = (-1 : Int32) then
  (f_X8_pairUp K a0 I0 J0 R0).bind fun z8 =>
  if z5 = (-1 : Int32) then
  (R0 a0 3).bind fun x17 =>
  if K x17 = (0, 4) then
  some ((z8.1 x17 2), z8.1, z8.2)
  else none
  else
  (R0 a0 3).bind fun x11 =>
  if K x11 = (0, 4) then
  (R0 x11 1).bind fun x14 =>
  if mIx K x14 1 z5 then
  some ((z8.1 x14 (z5).toNatClampNeg), z8.1, z8.2)
  else none
  else none
  else
  if z5 = (-1 : Int32) then
  some ((-100000 : Int32), I0, J0)
  else
  (f_X8_pairUp K a0 I0 J0 R0).bind fun z21 =>
  if z5 = (-1 : Int32) then
  (R0 a0 3).bind fun x30 =>
  if K x30 = (0, 4) then
  some ((z21.1 x30 2), z21.1, z21.2)
  else none
  else
  (R0 a0 3).bind fun x24 =>
  if K x24 = (0, 4) then
  (R0 x24 1).bind fun x27 =>
  if mIx K x27 1 z5 then
  some ((z21.1 x27 (z5).toNatClampNeg), z21.1, z21.2)
  else none
  else none
  else none
  else none
set_option maxHeartbeats 4000000 in
set_option maxRecDepth 100000 in
theorem r_X8_pairing (l : Launch) (g : mG) (K : mK) (n : Nat) (hJ : mInj g n) (hO : mOk K n) (a0 : Nat) (a1 : Int32) (I0 : mI) (J0 : mJ) (R0 : mR) (out : (Int32 × mI × mJ)) (hf : f_X8_pairing K a0 a1 I0 J0 R0 = some out) : Met l yX8_pairing (mWs yX8_pairing cX8_pairing 3 (some .int)) ({ frames := 5, cells := 0, slots := 0, locals := 113 }) (va_Pc [.ref (g.2.1 a0), .int a1] (mB g K n I0 J0 R0)) (mQ g K n (some (.int out.1)) out.2.1 out.2.2 R0) 0 0 (mA g n) := by
  unfold f_X8_pairing at hf
  refine mStart RX8 hJ hO (by decide) rfl (Nat.le_of_ble_eq_true rfl) ?_
  intro p e s m below meth c ls Qm hQm B hr hlk hw hl
  have hx := B.1.1
  have hb := B.1.2.1
  have hl : lv_has ls 3 [(0, .ref (g.2.1 a0)), (1, .int a1)] := hl
  refine lv_aload_n hx hb dX8_pairing_0 rfl (lv_at hl 0 rfl) ?_
  obtain ⟨h1, hf⟩ := mChk hf
  obtain ⟨x2, e3, hf⟩ := mBind hf
  refine mgr B hw flX8_19 rfl h1 e3 dX8_pairing_1 ?_
  refine lv_iload_n hx hb dX8_pairing_4 rfl (lv_at hl 1 rfl) ?_
  obtain ⟨h4, hf⟩ := mChk hf
  obtain ⟨z5, e6, hf⟩ := mBind hf
  refine mcallV (rest := []) (ci := 0) B hw [.int a1] clX8_129 rfl h4 (r_X0_leaderOf l g K n hJ hO x2 a1 I0 J0 R0 z5 e6) ⟨rfl, rfl, Nat.le_of_ble_eq_true rfl, Nat.le_of_ble_eq_true rfl⟩ rfl hl.1 (Nat.le_of_ble_eq_true rfl) ⟨Nat.zero_le _, Nat.zero_le _⟩ dX8_pairing_5 (fun H locs hw => ?_)
  refine W.eq (g2 := F0 m 8 ls [.int z5]) rfl ?_
  refine lv_istore_n (lv' := [(2, .int z5), (0, .ref (g.2.1 a0)), (1, .int a1)]) hx hb dX8_pairing_8 rfl hl (by decide) rfl (fun ls hl => ?_)
  refine lv_iload_n hx hb dX8_pairing_9 rfl (lv_at hl 2 rfl) ?_
  refine lv_iconst (v := (-1 : Int32)) hx hb dX8_pairing_10 (by decide) ?_
  refine lv_icmp_eq (tgt := 22) hx hb dX8_pairing_11 (by decide) (fun c7 => ?_) (fun c7 => ?_)
  · replace hf := mT1 c7 hf
    refine lv_aload_n hx hb dX8_pairing_22 rfl (lv_at hl 1 rfl) ?_
    obtain ⟨z8, e9, hf⟩ := mBind hf
    refine mcallV (rest := []) (ci := 8) B hw [] clX8_171 rfl h1 (r_X8_pairUp l g K n hJ hO a0 I0 J0 R0 z8 e9) ⟨rfl, rfl, Nat.le_of_ble_eq_true rfl, Nat.le_of_ble_eq_true rfl⟩ rfl hl.1 (Nat.le_of_ble_eq_true rfl) ⟨Nat.zero_le _, Nat.zero_le _⟩ dX8_pairing_23 (fun H locs hw => ?_)
    refine W.eq (g2 := F0 m 26 ls []) rfl ?_
    refine lv_iload_n hx hb dX8_pairing_26 rfl (lv_at hl 0 rfl) ?_
    refine lv_iconst (v := (-1 : Int32)) hx hb dX8_pairing_27 (by decide) ?_
    refine lv_icmp_ne (tgt := 41) hx hb dX8_pairing_28 (by decide) (fun c10 => ?_) (fun c10 => ?_)
    · replace hf := mF1 c10 hf
      refine lv_aload_n hx hb dX8_pairing_41 rfl (lv_at hl 1 rfl) ?_
      obtain ⟨x11, e12, hf⟩ := mBind hf
      refine mgr B hw flX8_33 rfl h1 e12 dX8_pairing_42 ?_
      obtain ⟨h13, hf⟩ := mChk hf
      obtain ⟨x14, e15, hf⟩ := mBind hf
      refine mgr B hw flX8_177 rfl h13 e15 dX8_pairing_45 ?_
      refine lv_iload_n hx hb dX8_pairing_48 rfl (lv_at hl 0 rfl) ?_
      obtain ⟨h16, hf⟩ := mChk hf
      refine mld1 B hw h16 dX8_pairing_49 ?_
      rw [hQm, ← Option.some.inj hf]
      exact mri hx hb hr hlk hw dX8_pairing_50
    · replace hf := mT1 c10 hf
      refine lv_aload_n hx hb dX8_pairing_31 rfl (lv_at hl 1 rfl) ?_
      obtain ⟨x17, e18, hf⟩ := mBind hf
      refine mgr B hw flX8_33 rfl h1 e18 dX8_pairing_32 ?_
      obtain ⟨h19, hf⟩ := mChk hf
      refine mgi B hw flX8_174 rfl h19 dX8_pairing_35 ?_
      refine lv_goto (tgt := 50) hx hb dX8_pairing_38 (by decide) ?_
      rw [hQm, ← Option.some.inj hf]
      exact mri hx hb hr hlk hw dX8_pairing_50
  · replace hf := mF1 c7 hf
    refine lv_iload_n hx hb dX8_pairing_14 rfl (lv_at hl 0 rfl) ?_
    refine lv_iconst (v := (-1 : Int32)) hx hb dX8_pairing_15 (by decide) ?_
    refine lv_icmp_ne (tgt := 22) hx hb dX8_pairing_16 (by decide) (fun c20 => ?_) (fun c20 => ?_)
    · replace hf := mF1 c20 hf
      refine lv_aload_n hx hb dX8_pairing_22 rfl (lv_at hl 1 rfl) ?_
      obtain ⟨z21, e22, hf⟩ := mBind hf
      refine mcallV (rest := []) (ci := 8) B hw [] clX8_171 rfl h1 (r_X8_pairUp l g K n hJ hO a0 I0 J0 R0 z21 e22) ⟨rfl, rfl, Nat.le_of_ble_eq_true rfl, Nat.le_of_ble_eq_true rfl⟩ rfl hl.1 (Nat.le_of_ble_eq_true rfl) ⟨Nat.zero_le _, Nat.zero_le _⟩ dX8_pairing_23 (fun H locs hw => ?_)
      refine W.eq (g2 := F0 m 26 ls []) rfl ?_
      refine lv_iload_n hx hb dX8_pairing_26 rfl (lv_at hl 0 rfl) ?_
      refine lv_iconst (v := (-1 : Int32)) hx hb dX8_pairing_27 (by decide) ?_
      refine lv_icmp_ne (tgt := 41) hx hb dX8_pairing_28 (by decide) (fun c23 => ?_) (fun c23 => ?_)
      · replace hf := mF1 c23 hf
        refine lv_aload_n hx hb dX8_pairing_41 rfl (lv_at hl 1 rfl) ?_
        obtain ⟨x24, e25, hf⟩ := mBind hf
        refine mgr B hw flX8_33 rfl h1 e25 dX8_pairing_42 ?_
        obtain ⟨h26, hf⟩ := mChk hf
        obtain ⟨x27, e28, hf⟩ := mBind hf
        refine mgr B hw flX8_177 rfl h26 e28 dX8_pairing_45 ?_
        refine lv_iload_n hx hb dX8_pairing_48 rfl (lv_at hl 0 rfl) ?_
        obtain ⟨h29, hf⟩ := mChk hf
        refine mld1 B hw h29 dX8_pairing_49 ?_
        rw [hQm, ← Option.some.inj hf]
        exact mri hx hb hr hlk hw dX8_pairing_50
      · replace hf := mT1 c23 hf
        refine lv_aload_n hx hb dX8_pairing_31 rfl (lv_at hl 1 rfl) ?_
        obtain ⟨x30, e31, hf⟩ := mBind hf
        refine mgr B hw flX8_33 rfl h1 e31 dX8_pairing_32 ?_
        obtain ⟨h32, hf⟩ := mChk hf
        refine mgi B hw flX8_174 rfl h32 dX8_pairing_35 ?_
        refine lv_goto (tgt := 50) hx hb dX8_pairing_38 (by decide) ?_
        rw [hQm, ← Option.some.inj hf]
        exact mri hx hb hr hlk hw dX8_pairing_50
    · replace hf := mT1 c20 hf
      refine lv_ldc (v := (-100000 : Int32)) hx hb B.1.2.2.2.1 (B.1.2.2.2.2 (Cond.constant RX8 170 (-100000 : Int32)) (mT_at 444 rfl rfl)) dX8_pairing_19 ?_
      rw [hQm, ← Option.some.inj hf]
      exact mri hx hb hr hlk hw dX8_pairing_21
def f_X8_margin (K : mK) (a0 : Nat) (a1 : Int32) (I0 : mI) (J0 : mJ) (R0 : mR) : Option (Int32 × mI × mJ) :=
  if K a0 = (0, 8) then
  (R0 a0 1).bind fun x2 =>
  if K x2 = (0, 0) then
  (f_X0_leaderOf K x2 a1 I0 J0 R0).bind fun z5 =>
  if z5 = (-1 : Int32) then
  some ((-1 : Int32), I0, J0)
  else
  (R0 x2 2).bind fun x8 =>
  if mIx K x8 1 z5 then
  if (I0 x8 (z5).toNatClampNeg) = (-1 : Int32) then
  (f_X8_pairUp K a0 I0 J0 R0).bind fun z12 =>
  (R0 a0 3).bind fun x14 =>
  if K x14 = (0, 4) then
  (R0 x14 1).bind fun x17 =>
  if mIx K x17 1 z5 then
  if (z12.1 x17 (z5).toNatClampNeg) = (-1 : Int32) then
  some ((-1 : Int32), z12.1, z12.2)
  else
  (f_X4_lossWithout K x14 z5 z12.1 z12.2 R0).bind fun z21 =>
  some (z21.1, z21.2.1, z21.2.2)
  else none
  else none
  else
  some ((-1 : Int32), I0, J0)
  else none
  else none
  else none
set_option maxHeartbeats 4000000 in
set_option maxRecDepth 100000 in
theorem r_X8_margin (l : Launch) (g : mG) (K : mK) (n : Nat) (hJ : mInj g n) (hO : mOk K n) (a0 : Nat) (a1 : Int32) (I0 : mI) (J0 : mJ) (R0 : mR) (out : (Int32 × mI × mJ)) (hf : f_X8_margin K a0 a1 I0 J0 R0 = some out) : Met l yX8_margin (mWs yX8_margin cX8_margin 3 (some .int)) ({ frames := 5, cells := 0, slots := 0, locals := 113 }) (va_Pc [.ref (g.2.1 a0), .int a1] (mB g K n I0 J0 R0)) (mQ g K n (some (.int out.1)) out.2.1 out.2.2 R0) 0 0 (mA g n) := by
  unfold f_X8_margin at hf
  refine mStart RX8 hJ hO (by decide) rfl (Nat.le_of_ble_eq_true rfl) ?_
  intro p e s m below meth c ls Qm hQm B hr hlk hw hl
  have hx := B.1.1
  have hb := B.1.2.1
  have hl : lv_has ls 3 [(0, .ref (g.2.1 a0)), (1, .int a1)] := hl
  refine lv_aload_n hx hb dX8_margin_0 rfl (lv_at hl 0 rfl) ?_
  obtain ⟨h1, hf⟩ := mChk hf
  obtain ⟨x2, e3, hf⟩ := mBind hf
  refine mgr B hw flX8_19 rfl h1 e3 dX8_margin_1 ?_
  refine lv_iload_n hx hb dX8_margin_4 rfl (lv_at hl 1 rfl) ?_
  obtain ⟨h4, hf⟩ := mChk hf
  obtain ⟨z5, e6, hf⟩ := mBind hf
  refine mcallV (rest := []) (ci := 0) B hw [.int a1] clX8_129 rfl h4 (r_X0_leaderOf l g K n hJ hO x2 a1 I0 J0 R0 z5 e6) ⟨rfl, rfl, Nat.le_of_ble_eq_true rfl, Nat.le_of_ble_eq_true rfl⟩ rfl hl.1 (Nat.le_of_ble_eq_true rfl) ⟨Nat.zero_le _, Nat.zero_le _⟩ dX8_margin_5 (fun H locs hw => ?_)
  refine W.eq (g2 := F0 m 8 ls [.int z5]) rfl ?_
  refine lv_istore_n (lv' := [(2, .int z5), (0, .ref (g.2.1 a0)), (1, .int a1)]) hx hb dX8_margin_8 rfl hl (by decide) rfl (fun ls hl => ?_)
  refine lv_iload_n hx hb dX8_margin_9 rfl (lv_at hl 0 rfl) ?_
  refine lv_iconst (v := (-1 : Int32)) hx hb dX8_margin_10 (by decide) ?_
  refine lv_icmp_eq (tgt := 27) hx hb dX8_margin_11 (by decide) (fun c7 => ?_) (fun c7 => ?_)
  · replace hf := mT1 c7 hf
    refine lv_iconst (v := (-1 : Int32)) hx hb dX8_margin_27 (by decide) ?_
    rw [hQm, ← Option.some.inj hf]
    exact mri hx hb hr hlk hw dX8_margin_28
  · replace hf := mF1 c7 hf
    refine lv_aload_n hx hb dX8_margin_14 rfl (lv_at hl 1 rfl) ?_
    refine mgr B hw flX8_19 rfl h1 e3 dX8_margin_15 ?_
    obtain ⟨x8, e9, hf⟩ := mBind hf
    refine mgr B hw flX8_146 rfl h4 e9 dX8_margin_18 ?_
    refine lv_iload_n hx hb dX8_margin_21 rfl (lv_at hl 0 rfl) ?_
    obtain ⟨h10, hf⟩ := mChk hf
    refine mld1 B hw h10 dX8_margin_22 ?_
    refine lv_iconst (v := (-1 : Int32)) hx hb dX8_margin_23 (by decide) ?_
    refine lv_icmp_eq (tgt := 29) hx hb dX8_margin_24 (by decide) (fun c11 => ?_) (fun c11 => ?_)
    · replace hf := mT1 c11 hf
      refine lv_aload_n hx hb dX8_margin_29 rfl (lv_at hl 1 rfl) ?_
      obtain ⟨z12, e13, hf⟩ := mBind hf
      refine mcallV (rest := []) (ci := 8) B hw [] clX8_171 rfl h1 (r_X8_pairUp l g K n hJ hO a0 I0 J0 R0 z12 e13) ⟨rfl, rfl, Nat.le_of_ble_eq_true rfl, Nat.le_of_ble_eq_true rfl⟩ rfl hl.1 (Nat.le_of_ble_eq_true rfl) ⟨Nat.zero_le _, Nat.zero_le _⟩ dX8_margin_30 (fun H locs hw => ?_)
      refine W.eq (g2 := F0 m 33 ls []) rfl ?_
      refine lv_aload_n hx hb dX8_margin_33 rfl (lv_at hl 1 rfl) ?_
      obtain ⟨x14, e15, hf⟩ := mBind hf
      refine mgr B hw flX8_33 rfl h1 e15 dX8_margin_34 ?_
      obtain ⟨h16, hf⟩ := mChk hf
      obtain ⟨x17, e18, hf⟩ := mBind hf
      refine mgr B hw flX8_177 rfl h16 e18 dX8_margin_37 ?_
      refine lv_iload_n hx hb dX8_margin_40 rfl (lv_at hl 0 rfl) ?_
      obtain ⟨h19, hf⟩ := mChk hf
      refine mld1 B hw h19 dX8_margin_41 ?_
      refine lv_iconst (v := (-1 : Int32)) hx hb dX8_margin_42 (by decide) ?_
      refine lv_icmp_ne (tgt := 50) hx hb dX8_margin_43 (by decide) (fun c20 => ?_) (fun c20 => ?_)
      · replace hf := mF1 c20 hf
        refine lv_aload_n hx hb dX8_margin_50 rfl (lv_at hl 1 rfl) ?_
        refine mgr B hw flX8_33 rfl h1 e15 dX8_margin_51 ?_
        refine lv_iload_n hx hb dX8_margin_54 rfl (lv_at hl 0 rfl) ?_
        obtain ⟨z21, e22, hf⟩ := mBind hf
        refine mcallV (rest := []) (ci := 4) B hw [.int z5] clX8_180 rfl h16 (r_X4_lossWithout l g K n hJ hO x14 z5 z12.1 z12.2 R0 z21 e22) ⟨rfl, rfl, Nat.le_of_ble_eq_true rfl, Nat.le_of_ble_eq_true rfl⟩ rfl hl.1 (Nat.le_of_ble_eq_true rfl) ⟨Nat.zero_le _, Nat.zero_le _⟩ dX8_margin_55 (fun H locs hw => ?_)
        refine W.eq (g2 := F0 m 58 ls [.int z21.1]) rfl ?_
        rw [hQm, ← Option.some.inj hf]
        exact mri hx hb hr hlk hw dX8_margin_58
      · replace hf := mT1 c20 hf
        refine lv_iconst (v := (-1 : Int32)) hx hb dX8_margin_46 (by decide) ?_
        refine lv_goto (tgt := 58) hx hb dX8_margin_47 (by decide) ?_
        rw [hQm, ← Option.some.inj hf]
        exact mri hx hb hr hlk hw dX8_margin_58
    · replace hf := mF1 c11 hf
      refine lv_iconst (v := (-1 : Int32)) hx hb dX8_margin_27 (by decide) ?_
      rw [hQm, ← Option.some.inj hf]
      exact mri hx hb hr hlk hw dX8_margin_28
def f_X8_seal (K : mK) (a0 : Nat) (a1 : Int32) (a2 : Int32) (a3 : Int32) (I0 : mI) (J0 : mJ) (R0 : mR) : Option (Int32 × mI) :=
  if K a0 = (0, 8) then
  (R0 a0 1).bind fun x2 =>
  if K x2 = (0, 0) then
  (f_X0_leaderOf K x2 a1 I0 J0 R0).bind fun z5 =>
  if z5 = (-1 : Int32) then
  some ((-1 : Int32), I0)
  else
  (R0 a0 0).bind fun x8 =>
  if K x8 = (0, 2) then
  (f_X2_find K x8 a2 I0 J0 R0).bind fun z11 =>
  mON z11 (
  some ((-1 : Int32), I0)) (fun x13 =>
  (f_X8_within K a3 (0 : Int32) (9 : Int32) I0 J0 R0).bind fun z14 =>
  if (mb z14) = 0 then
  some ((-1 : Int32), I0)
  else
  (R0 a0 2).bind fun x17 =>
  if K x17 = (0, 6) then
  (f_X6_bears K x17 z5 a2 a3 I0 J0 R0).bind fun z20 =>
  if (mb z20) = 0 then
  (f_X6_put K x17 z5 a2 a3 I0 J0 R0).bind fun z23 =>
  if (mb z23.1) = 0 then
  some ((-3 : Int32), z23.2)
  else
  (f_X6_personsOn K x17 z5 a2 z23.2 J0 R0).bind fun z26 =>
  some (z26, z23.2)
  else
  some ((-2 : Int32), I0)
  else none)
  else none
  else none
  else none
set_option maxHeartbeats 4000000 in
set_option maxRecDepth 100000 in
theorem r_X8_seal (l : Launch) (g : mG) (K : mK) (n : Nat) (hJ : mInj g n) (hO : mOk K n) (a0 : Nat) (a1 : Int32) (a2 : Int32) (a3 : Int32) (I0 : mI) (J0 : mJ) (R0 : mR) (out : (Int32 × mI)) (hf : f_X8_seal K a0 a1 a2 a3 I0 J0 R0 = some out) : Met l yX8_seal (mWs yX8_seal cX8_seal 5 (some .int)) ({ frames := 2, cells := 0, slots := 0, locals := 45 }) (va_Pc [.ref (g.2.1 a0), .int a1, .int a2, .int a3] (mB g K n I0 J0 R0)) (mQ g K n (some (.int out.1)) out.2 J0 R0) 0 0 (mA g n) := by
  unfold f_X8_seal at hf
  refine mStart RX8 hJ hO (by decide) rfl (Nat.le_of_ble_eq_true rfl) ?_
  intro p e s m below meth c ls Qm hQm B hr hlk hw hl
  have hx := B.1.1
  have hb := B.1.2.1
  have hl : lv_has ls 5 [(0, .ref (g.2.1 a0)), (1, .int a1), (2, .int a2), (3, .int a3)] := hl
  refine lv_aload_n hx hb dX8_seal_0 rfl (lv_at hl 0 rfl) ?_
  obtain ⟨h1, hf⟩ := mChk hf
  obtain ⟨x2, e3, hf⟩ := mBind hf
  refine mgr B hw flX8_19 rfl h1 e3 dX8_seal_1 ?_
  refine lv_iload_n hx hb dX8_seal_4 rfl (lv_at hl 1 rfl) ?_
  obtain ⟨h4, hf⟩ := mChk hf
  obtain ⟨z5, e6, hf⟩ := mBind hf
  refine mcallV (rest := []) (ci := 0) B hw [.int a1] clX8_129 rfl h4 (r_X0_leaderOf l g K n hJ hO x2 a1 I0 J0 R0 z5 e6) ⟨rfl, rfl, Nat.le_of_ble_eq_true rfl, Nat.le_of_ble_eq_true rfl⟩ rfl hl.1 (Nat.le_of_ble_eq_true rfl) ⟨Nat.zero_le _, Nat.zero_le _⟩ dX8_seal_5 (fun H locs hw => ?_)
  refine W.eq (g2 := F0 m 8 ls [.int z5]) rfl ?_
  refine lv_istore (lv' := [(4, .int z5), (0, .ref (g.2.1 a0)), (1, .int a1), (2, .int a2), (3, .int a3)]) hx hb dX8_seal_8 hl (by decide) rfl (fun ls hl => ?_)
  refine lv_iload hx hb dX8_seal_10 (lv_at hl 0 rfl) ?_
  refine lv_iconst (v := (-1 : Int32)) hx hb dX8_seal_12 (by decide) ?_
  refine lv_icmp_eq (tgt := 37) hx hb dX8_seal_13 (by decide) (fun c7 => ?_) (fun c7 => ?_)
  · replace hf := mT1 c7 hf
    refine lv_iconst (v := (-1 : Int32)) hx hb dX8_seal_37 (by decide) ?_
    rw [hQm, ← Option.some.inj hf]
    exact mri hx hb hr hlk hw dX8_seal_38
  · replace hf := mF1 c7 hf
    refine lv_aload_n hx hb dX8_seal_16 rfl (lv_at hl 1 rfl) ?_
    obtain ⟨x8, e9, hf⟩ := mBind hf
    refine mgr B hw flX8_10 rfl h1 e9 dX8_seal_17 ?_
    refine lv_iload_n hx hb dX8_seal_20 rfl (lv_at hl 3 rfl) ?_
    obtain ⟨h10, hf⟩ := mChk hf
    obtain ⟨z11, e12, hf⟩ := mBind hf
    refine mcallV (rest := []) (ci := 2) B hw [.int a2] clX8_118 rfl h10 (r_X2_find l g K n hJ hO x8 a2 I0 J0 R0 z11 e12) ⟨rfl, rfl, Nat.le_of_ble_eq_true rfl, Nat.le_of_ble_eq_true rfl⟩ rfl hl.1 (Nat.le_of_ble_eq_true rfl) ⟨Nat.zero_le _, Nat.zero_le _⟩ dX8_seal_21 (fun H locs hw => ?_)
    refine W.eq (g2 := F0 m 24 ls [va_rf (Option.map g.2.1 z11)]) rfl ?_
    rcases z11 with _ | x13
    · replace hf := mON0 hf
      replace hl : lv_has ls 5 [(4, .int z5), (0, .ref (g.2.1 a0)), (1, .int a1), (2, .int a2), (3, .int a3)] := hl
      refine W.eq (g2 := F0 m 24 ls [.null]) rfl ?_
      refine lv_ifnullN (tgt := 37) hx hb dX8_seal_24 (by decide) ?_
      refine lv_iconst (v := (-1 : Int32)) hx hb dX8_seal_37 (by decide) ?_
      rw [hQm, ← Option.some.inj hf]
      exact mri hx hb hr hlk hw dX8_seal_38
    · replace hf := mON1 hf
      replace hl : lv_has ls 5 [(4, .int z5), (0, .ref (g.2.1 a0)), (1, .int a1), (2, .int a2), (3, .int a3)] := hl
      refine W.eq (g2 := F0 m 24 ls [.ref (g.2.1 x13)]) rfl ?_
      refine lv_ifnull hx hb dX8_seal_24 ?_
      refine lv_iload_n hx hb dX8_seal_27 rfl (lv_at hl 4 rfl) ?_
      refine lv_iconst (v := (0 : Int32)) hx hb dX8_seal_28 (by decide) ?_
      refine lv_bipush (v := (9 : Int32)) hx hb dX8_seal_29 (by decide) ?_
      obtain ⟨z14, e15, hf⟩ := mBind hf
      refine mcallS (rest := []) B hw [.int a3, .int (0 : Int32), .int (9 : Int32)] clX8_82 (r_X8_within l g K n hJ hO a3 (0 : Int32) (9 : Int32) I0 J0 R0 z14 e15) ⟨rfl, rfl, Nat.le_of_ble_eq_true rfl, Nat.le_of_ble_eq_true rfl⟩ rfl hl.1 (Nat.le_of_ble_eq_true rfl) ⟨Nat.zero_le _, Nat.zero_le _⟩ dX8_seal_31 (fun H locs hw => ?_)
      refine W.eq (g2 := F0 m 34 ls [.int (mb z14)]) rfl ?_
      refine lv_if_ne (tgt := 39) hx hb dX8_seal_34 (by decide) (fun c16 => ?_) (fun c16 => ?_)
      · replace hf := mF1 c16 hf
        refine lv_aload_n hx hb dX8_seal_39 rfl (lv_at hl 1 rfl) ?_
        obtain ⟨x17, e18, hf⟩ := mBind hf
        refine mgr B hw flX8_26 rfl h1 e18 dX8_seal_40 ?_
        refine lv_iload hx hb dX8_seal_43 (lv_at hl 0 rfl) ?_
        refine lv_iload_n hx hb dX8_seal_45 rfl (lv_at hl 3 rfl) ?_
        refine lv_iload_n hx hb dX8_seal_46 rfl (lv_at hl 4 rfl) ?_
        obtain ⟨h19, hf⟩ := mChk hf
        obtain ⟨z20, e21, hf⟩ := mBind hf
        refine mcallV (rest := []) (ci := 6) B hw [.int z5, .int a2, .int a3] clX8_183 rfl h19 (r_X6_bears l g K n hJ hO x17 z5 a2 a3 I0 J0 R0 z20 e21) ⟨rfl, rfl, Nat.le_of_ble_eq_true rfl, Nat.le_of_ble_eq_true rfl⟩ rfl hl.1 (Nat.le_of_ble_eq_true rfl) ⟨Nat.zero_le _, Nat.zero_le _⟩ dX8_seal_47 (fun H locs hw => ?_)
        refine W.eq (g2 := F0 m 50 ls [.int (mb z20)]) rfl ?_
        refine lv_if_eq (tgt := 56) hx hb dX8_seal_50 (by decide) (fun c22 => ?_) (fun c22 => ?_)
        · replace hf := mT1 c22 hf
          refine lv_aload_n hx hb dX8_seal_56 rfl (lv_at hl 1 rfl) ?_
          refine mgr B hw flX8_26 rfl h1 e18 dX8_seal_57 ?_
          refine lv_iload hx hb dX8_seal_60 (lv_at hl 0 rfl) ?_
          refine lv_iload_n hx hb dX8_seal_62 rfl (lv_at hl 3 rfl) ?_
          refine lv_iload_n hx hb dX8_seal_63 rfl (lv_at hl 4 rfl) ?_
          obtain ⟨z23, e24, hf⟩ := mBind hf
          refine mcallV (rest := []) (ci := 6) B hw [.int z5, .int a2, .int a3] clX8_186 rfl h19 (r_X6_put l g K n hJ hO x17 z5 a2 a3 I0 J0 R0 z23 e24) ⟨rfl, rfl, Nat.le_of_ble_eq_true rfl, Nat.le_of_ble_eq_true rfl⟩ rfl hl.1 (Nat.le_of_ble_eq_true rfl) ⟨Nat.zero_le _, Nat.zero_le _⟩ dX8_seal_64 (fun H locs hw => ?_)
          refine W.eq (g2 := F0 m 67 ls [.int (mb z23.1)]) rfl ?_
          refine lv_if_ne (tgt := 73) hx hb dX8_seal_67 (by decide) (fun c25 => ?_) (fun c25 => ?_)
          · replace hf := mF1 c25 hf
            refine lv_aload_n hx hb dX8_seal_73 rfl (lv_at hl 1 rfl) ?_
            refine mgr B hw flX8_26 rfl h1 e18 dX8_seal_74 ?_
            refine lv_iload hx hb dX8_seal_77 (lv_at hl 0 rfl) ?_
            refine lv_iload_n hx hb dX8_seal_79 rfl (lv_at hl 3 rfl) ?_
            obtain ⟨z26, e27, hf⟩ := mBind hf
            refine mcallV (rest := []) (ci := 6) B hw [.int z5, .int a2] clX8_189 rfl h19 (r_X6_personsOn l g K n hJ hO x17 z5 a2 z23.2 J0 R0 z26 e27) ⟨rfl, rfl, Nat.le_of_ble_eq_true rfl, Nat.le_of_ble_eq_true rfl⟩ rfl hl.1 (Nat.le_of_ble_eq_true rfl) ⟨Nat.zero_le _, Nat.zero_le _⟩ dX8_seal_80 (fun H locs hw => ?_)
            refine W.eq (g2 := F0 m 83 ls [.int z26]) rfl ?_
            rw [hQm, ← Option.some.inj hf]
            exact mri hx hb hr hlk hw dX8_seal_83
          · replace hf := mT1 c25 hf
            refine lv_bipush (v := (-3 : Int32)) hx hb dX8_seal_70 (by decide) ?_
            rw [hQm, ← Option.some.inj hf]
            exact mri hx hb hr hlk hw dX8_seal_72
        · replace hf := mF1 c22 hf
          refine lv_bipush (v := (-2 : Int32)) hx hb dX8_seal_53 (by decide) ?_
          rw [hQm, ← Option.some.inj hf]
          exact mri hx hb hr hlk hw dX8_seal_55
      · replace hf := mT1 c16 hf
        refine lv_iconst (v := (-1 : Int32)) hx hb dX8_seal_37 (by decide) ?_
        rw [hQm, ← Option.some.inj hf]
        exact mri hx hb hr hlk hw dX8_seal_38
def f_X8_give (K : mK) (a0 : Nat) (a1 : Int32) (I0 : mI) (J0 : mJ) (R0 : mR) : Option (Int32 × mI × mJ) :=
  if K a0 = (0, 8) then
  (R0 a0 1).bind fun x2 =>
  if K x2 = (0, 0) then
  (f_X0_leaderOf K x2 a1 I0 J0 R0).bind fun z5 =>
  if z5 = (-1 : Int32) then
  some ((-2 : Int32), I0, J0)
  else
  (R0 x2 2).bind fun x8 =>
  if mIx K x8 1 z5 then
  if (I0 x8 (z5).toNatClampNeg) = (-1 : Int32) then
  (f_X8_pairUp K a0 I0 J0 R0).bind fun z12 =>
  (R0 a0 3).bind fun x14 =>
  if K x14 = (0, 4) then
  (R0 x14 1).bind fun x17 =>
  if mIx K x17 1 z5 then
  if (z12.1 x17 (z5).toNatClampNeg) = (-1 : Int32) then
  some ((-3 : Int32), z12.1, z12.2)
  else
  (R0 x14 0).bind fun x21 =>
  if mIx K x21 6 z5 then
  (R0 x21 (z5).toNatClampNeg).bind fun x24 =>
  if mIx K x24 1 (z12.1 x17 (z5).toNatClampNeg) then
  (R0 a0 8).bind fun x27 =>
  if K x27 = (0, 3) then
  (R0 x27 3).bind fun x30 =>
  if mIx K x30 1 (1 : Int32) then
  if (z12.1 x30 ((1 : Int32)).toNatClampNeg) ≤ (z12.1 x24 ((z12.1 x17 (z5).toNatClampNeg)).toNatClampNeg) then
  (f_X4_lossWithout K x14 z5 z12.1 z12.2 R0).bind fun z34 =>
  if mIx K x30 1 (2 : Int32) then
  if (z34.2.1 x30 ((2 : Int32)).toNatClampNeg) ≤ z34.1 then
  (R0 a0 2).bind fun x38 =>
  if K x38 = (0, 6) then
  (f_X6_personsOn K x38 z5 (z12.1 x17 (z5).toNatClampNeg) z34.2.1 z34.2.2 R0).bind fun z41 =>
  if mIx K x30 1 (3 : Int32) then
  if (z34.2.1 x30 ((3 : Int32)).toNatClampNeg) ≤ z41 then
  (some (mup z34.2.1 x8 (z5).toNatClampNeg (z12.1 x17 (z5).toNatClampNeg))).bind fun I45 =>
  some ((z12.1 x17 (z5).toNatClampNeg), I45, z34.2.2)
  else
  some ((-6 : Int32), z34.2.1, z34.2.2)
  else none
  else none
  else
  some ((-5 : Int32), z34.2.1, z34.2.2)
  else none
  else
  some ((-4 : Int32), z12.1, z12.2)
  else none
  else none
  else none
  else none
  else none
  else none
  else
  some ((-2 : Int32), I0, J0)
  else none
  else none
  else none
set_option maxHeartbeats 4000000 in
set_option maxRecDepth 100000 in
theorem r_X8_give (l : Launch) (g : mG) (K : mK) (n : Nat) (hJ : mInj g n) (hO : mOk K n) (a0 : Nat) (a1 : Int32) (I0 : mI) (J0 : mJ) (R0 : mR) (out : (Int32 × mI × mJ)) (hf : f_X8_give K a0 a1 I0 J0 R0 = some out) : Met l yX8_give (mWs yX8_give cX8_give 4 (some .int)) ({ frames := 5, cells := 0, slots := 0, locals := 113 }) (va_Pc [.ref (g.2.1 a0), .int a1] (mB g K n I0 J0 R0)) (mQ g K n (some (.int out.1)) out.2.1 out.2.2 R0) 0 0 (mA g n) := by
  unfold f_X8_give at hf
  refine mStart RX8 hJ hO (by decide) rfl (Nat.le_of_ble_eq_true rfl) ?_
  intro p e s m below meth c ls Qm hQm B hr hlk hw hl
  have hx := B.1.1
  have hb := B.1.2.1
  have hl : lv_has ls 4 [(0, .ref (g.2.1 a0)), (1, .int a1)] := hl
  refine lv_aload_n hx hb dX8_give_0 rfl (lv_at hl 0 rfl) ?_
  obtain ⟨h1, hf⟩ := mChk hf
  obtain ⟨x2, e3, hf⟩ := mBind hf
  refine mgr B hw flX8_19 rfl h1 e3 dX8_give_1 ?_
  refine lv_iload_n hx hb dX8_give_4 rfl (lv_at hl 1 rfl) ?_
  obtain ⟨h4, hf⟩ := mChk hf
  obtain ⟨z5, e6, hf⟩ := mBind hf
  refine mcallV (rest := []) (ci := 0) B hw [.int a1] clX8_129 rfl h4 (r_X0_leaderOf l g K n hJ hO x2 a1 I0 J0 R0 z5 e6) ⟨rfl, rfl, Nat.le_of_ble_eq_true rfl, Nat.le_of_ble_eq_true rfl⟩ rfl hl.1 (Nat.le_of_ble_eq_true rfl) ⟨Nat.zero_le _, Nat.zero_le _⟩ dX8_give_5 (fun H locs hw => ?_)
  refine W.eq (g2 := F0 m 8 ls [.int z5]) rfl ?_
  refine lv_istore_n (lv' := [(2, .int z5), (0, .ref (g.2.1 a0)), (1, .int a1)]) hx hb dX8_give_8 rfl hl (by decide) rfl (fun ls hl => ?_)
  refine lv_iload_n hx hb dX8_give_9 rfl (lv_at hl 0 rfl) ?_
  refine lv_iconst (v := (-1 : Int32)) hx hb dX8_give_10 (by decide) ?_
  refine lv_icmp_eq (tgt := 27) hx hb dX8_give_11 (by decide) (fun c7 => ?_) (fun c7 => ?_)
  · replace hf := mT1 c7 hf
    refine lv_bipush (v := (-2 : Int32)) hx hb dX8_give_27 (by decide) ?_
    rw [hQm, ← Option.some.inj hf]
    exact mri hx hb hr hlk hw dX8_give_29
  · replace hf := mF1 c7 hf
    refine lv_aload_n hx hb dX8_give_14 rfl (lv_at hl 1 rfl) ?_
    refine mgr B hw flX8_19 rfl h1 e3 dX8_give_15 ?_
    obtain ⟨x8, e9, hf⟩ := mBind hf
    refine mgr B hw flX8_146 rfl h4 e9 dX8_give_18 ?_
    refine lv_iload_n hx hb dX8_give_21 rfl (lv_at hl 0 rfl) ?_
    obtain ⟨h10, hf⟩ := mChk hf
    refine mld1 B hw h10 dX8_give_22 ?_
    refine lv_iconst (v := (-1 : Int32)) hx hb dX8_give_23 (by decide) ?_
    refine lv_icmp_eq (tgt := 30) hx hb dX8_give_24 (by decide) (fun c11 => ?_) (fun c11 => ?_)
    · replace hf := mT1 c11 hf
      refine lv_aload_n hx hb dX8_give_30 rfl (lv_at hl 1 rfl) ?_
      obtain ⟨z12, e13, hf⟩ := mBind hf
      refine mcallV (rest := []) (ci := 8) B hw [] clX8_171 rfl h1 (r_X8_pairUp l g K n hJ hO a0 I0 J0 R0 z12 e13) ⟨rfl, rfl, Nat.le_of_ble_eq_true rfl, Nat.le_of_ble_eq_true rfl⟩ rfl hl.1 (Nat.le_of_ble_eq_true rfl) ⟨Nat.zero_le _, Nat.zero_le _⟩ dX8_give_31 (fun H locs hw => ?_)
      refine W.eq (g2 := F0 m 34 ls []) rfl ?_
      refine lv_aload_n hx hb dX8_give_34 rfl (lv_at hl 1 rfl) ?_
      obtain ⟨x14, e15, hf⟩ := mBind hf
      refine mgr B hw flX8_33 rfl h1 e15 dX8_give_35 ?_
      obtain ⟨h16, hf⟩ := mChk hf
      obtain ⟨x17, e18, hf⟩ := mBind hf
      refine mgr B hw flX8_177 rfl h16 e18 dX8_give_38 ?_
      refine lv_iload_n hx hb dX8_give_41 rfl (lv_at hl 0 rfl) ?_
      obtain ⟨h19, hf⟩ := mChk hf
      refine mld1 B hw h19 dX8_give_42 ?_
      refine lv_istore_n (lv' := [(3, .int (z12.1 x17 (z5).toNatClampNeg)), (2, .int z5), (0, .ref (g.2.1 a0)), (1, .int a1)]) hx hb dX8_give_43 rfl hl (by decide) rfl (fun ls hl => ?_)
      refine lv_iload_n hx hb dX8_give_44 rfl (lv_at hl 0 rfl) ?_
      refine lv_iconst (v := (-1 : Int32)) hx hb dX8_give_45 (by decide) ?_
      refine lv_icmp_ne (tgt := 52) hx hb dX8_give_46 (by decide) (fun c20 => ?_) (fun c20 => ?_)
      · replace hf := mF1 c20 hf
        refine lv_aload_n hx hb dX8_give_52 rfl (lv_at hl 2 rfl) ?_
        refine mgr B hw flX8_33 rfl h1 e15 dX8_give_53 ?_
        obtain ⟨x21, e22, hf⟩ := mBind hf
        refine mgr B hw flX8_192 rfl h16 e22 dX8_give_56 ?_
        refine lv_iload_n hx hb dX8_give_59 rfl (lv_at hl 1 rfl) ?_
        obtain ⟨h23, hf⟩ := mChk hf
        obtain ⟨x24, e25, hf⟩ := mBind hf
        refine mld6 B hw h23 e25 dX8_give_60 ?_
        refine lv_iload_n hx hb dX8_give_61 rfl (lv_at hl 0 rfl) ?_
        obtain ⟨h26, hf⟩ := mChk hf
        refine mld1 B hw h26 dX8_give_62 ?_
        refine lv_aload_n hx hb dX8_give_63 rfl (lv_at hl 2 rfl) ?_
        obtain ⟨x27, e28, hf⟩ := mBind hf
        refine mgr B hw flX8_64 rfl h1 e28 dX8_give_64 ?_
        obtain ⟨h29, hf⟩ := mChk hf
        obtain ⟨x30, e31, hf⟩ := mBind hf
        refine mgr B hw flX8_196 rfl h29 e31 dX8_give_67 ?_
        refine lv_iconst (v := (1 : Int32)) hx hb dX8_give_70 (by decide) ?_
        obtain ⟨h32, hf⟩ := mChk hf
        refine mld1 B hw h32 dX8_give_71 ?_
        refine lv_icmp_ge (tgt := 78) hx hb dX8_give_72 (by decide) (fun c33 => ?_) (fun c33 => ?_)
        · replace hf := mT1 c33 hf
          refine lv_aload_n hx hb dX8_give_78 rfl (lv_at hl 2 rfl) ?_
          refine mgr B hw flX8_33 rfl h1 e15 dX8_give_79 ?_
          refine lv_iload_n hx hb dX8_give_82 rfl (lv_at hl 1 rfl) ?_
          obtain ⟨z34, e35, hf⟩ := mBind hf
          refine mcallV (rest := []) (ci := 4) B hw [.int z5] clX8_180 rfl h16 (r_X4_lossWithout l g K n hJ hO x14 z5 z12.1 z12.2 R0 z34 e35) ⟨rfl, rfl, Nat.le_of_ble_eq_true rfl, Nat.le_of_ble_eq_true rfl⟩ rfl hl.1 (Nat.le_of_ble_eq_true rfl) ⟨Nat.zero_le _, Nat.zero_le _⟩ dX8_give_83 (fun H locs hw => ?_)
          refine W.eq (g2 := F0 m 86 ls [.int z34.1]) rfl ?_
          refine lv_aload_n hx hb dX8_give_86 rfl (lv_at hl 2 rfl) ?_
          refine mgr B hw flX8_64 rfl h1 e28 dX8_give_87 ?_
          refine mgr B hw flX8_196 rfl h29 e31 dX8_give_90 ?_
          refine lv_iconst (v := (2 : Int32)) hx hb dX8_give_93 (by decide) ?_
          obtain ⟨h36, hf⟩ := mChk hf
          refine mld1 B hw h36 dX8_give_94 ?_
          refine lv_icmp_ge (tgt := 101) hx hb dX8_give_95 (by decide) (fun c37 => ?_) (fun c37 => ?_)
          · replace hf := mT1 c37 hf
            refine lv_aload_n hx hb dX8_give_101 rfl (lv_at hl 2 rfl) ?_
            obtain ⟨x38, e39, hf⟩ := mBind hf
            refine mgr B hw flX8_26 rfl h1 e39 dX8_give_102 ?_
            refine lv_iload_n hx hb dX8_give_105 rfl (lv_at hl 1 rfl) ?_
            refine lv_iload_n hx hb dX8_give_106 rfl (lv_at hl 0 rfl) ?_
            obtain ⟨h40, hf⟩ := mChk hf
            obtain ⟨z41, e42, hf⟩ := mBind hf
            refine mcallV (rest := []) (ci := 6) B hw [.int z5, .int (z12.1 x17 (z5).toNatClampNeg)] clX8_189 rfl h40 (r_X6_personsOn l g K n hJ hO x38 z5 (z12.1 x17 (z5).toNatClampNeg) z34.2.1 z34.2.2 R0 z41 e42) ⟨rfl, rfl, Nat.le_of_ble_eq_true rfl, Nat.le_of_ble_eq_true rfl⟩ rfl hl.1 (Nat.le_of_ble_eq_true rfl) ⟨Nat.zero_le _, Nat.zero_le _⟩ dX8_give_107 (fun H locs hw => ?_)
            refine W.eq (g2 := F0 m 110 ls [.int z41]) rfl ?_
            refine lv_aload_n hx hb dX8_give_110 rfl (lv_at hl 2 rfl) ?_
            refine mgr B hw flX8_64 rfl h1 e28 dX8_give_111 ?_
            refine mgr B hw flX8_196 rfl h29 e31 dX8_give_114 ?_
            refine lv_iconst (v := (3 : Int32)) hx hb dX8_give_117 (by decide) ?_
            obtain ⟨h43, hf⟩ := mChk hf
            refine mld1 B hw h43 dX8_give_118 ?_
            refine lv_icmp_ge (tgt := 125) hx hb dX8_give_119 (by decide) (fun c44 => ?_) (fun c44 => ?_)
            · replace hf := mT1 c44 hf
              refine lv_aload_n hx hb dX8_give_125 rfl (lv_at hl 2 rfl) ?_
              refine mgr B hw flX8_19 rfl h1 e3 dX8_give_126 ?_
              refine mgr B hw flX8_146 rfl h4 e9 dX8_give_129 ?_
              refine lv_iload_n hx hb dX8_give_132 rfl (lv_at hl 1 rfl) ?_
              refine lv_iload_n hx hb dX8_give_133 rfl (lv_at hl 0 rfl) ?_
              obtain ⟨I45, e46, hf⟩ := mLet hf
              refine mst1 B hw h10 dX8_give_134 (fun H locs hw => ?_)
              rw [← e46] at hw
              refine lv_iload_n hx hb dX8_give_135 rfl (lv_at hl 0 rfl) ?_
              rw [hQm, ← Option.some.inj hf]
              exact mri hx hb hr hlk hw dX8_give_136
            · replace hf := mF1 c44 hf
              refine lv_bipush (v := (-6 : Int32)) hx hb dX8_give_122 (by decide) ?_
              rw [hQm, ← Option.some.inj hf]
              exact mri hx hb hr hlk hw dX8_give_124
          · replace hf := mF1 c37 hf
            refine lv_bipush (v := (-5 : Int32)) hx hb dX8_give_98 (by decide) ?_
            rw [hQm, ← Option.some.inj hf]
            exact mri hx hb hr hlk hw dX8_give_100
        · replace hf := mF1 c33 hf
          refine lv_bipush (v := (-4 : Int32)) hx hb dX8_give_75 (by decide) ?_
          rw [hQm, ← Option.some.inj hf]
          exact mri hx hb hr hlk hw dX8_give_77
      · replace hf := mT1 c20 hf
        refine lv_bipush (v := (-3 : Int32)) hx hb dX8_give_49 (by decide) ?_
        rw [hQm, ← Option.some.inj hf]
        exact mri hx hb hr hlk hw dX8_give_51
    · replace hf := mF1 c11 hf
      refine lv_bipush (v := (-2 : Int32)) hx hb dX8_give_27 (by decide) ?_
      rw [hQm, ← Option.some.inj hf]
      exact mri hx hb hr hlk hw dX8_give_29
def f_X8_inDoubt (K : mK) (a0 : Nat) (a1 : Int32) (I0 : mI) (J0 : mJ) (R0 : mR) : Option (Bool × mI) :=
  if K a0 = (0, 8) then
  (R0 a0 0).bind fun x2 =>
  (R0 a0 1).bind fun x4 =>
  if K x4 = (0, 0) then
  (R0 x4 2).bind fun x7 =>
  if mIx K x7 1 a1 then
  if K x2 = (0, 2) then
  (f_X2_find K x2 (I0 x7 (a1).toNatClampNeg) I0 J0 R0).bind fun z11 =>
  mON z11 (
  some (false, I0)) (fun x13 =>
  (f_X8_barOf K a0 a1 x13 I0 J0 R0).bind fun z14 =>
  if z14.1 = 0 then
  some (false, z14.2)
  else
  some (true, z14.2))
  else none
  else none
  else none
  else none
set_option maxHeartbeats 4000000 in
set_option maxRecDepth 100000 in
theorem r_X8_inDoubt (l : Launch) (g : mG) (K : mK) (n : Nat) (hJ : mInj g n) (hO : mOk K n) (a0 : Nat) (a1 : Int32) (I0 : mI) (J0 : mJ) (R0 : mR) (out : (Bool × mI)) (hf : f_X8_inDoubt K a0 a1 I0 J0 R0 = some out) : Met l yX8_inDoubt (mWs yX8_inDoubt cX8_inDoubt 3 (some .boolean)) ({ frames := 4, cells := 0, slots := 0, locals := 88 }) (va_Pc [.ref (g.2.1 a0), .int a1] (mB g K n I0 J0 R0)) (mQ g K n (some (.int (mb out.1))) out.2 J0 R0) 0 0 (mA g n) := by
  unfold f_X8_inDoubt at hf
  refine mStart RX8 hJ hO (by decide) rfl (Nat.le_of_ble_eq_true rfl) ?_
  intro p e s m below meth c ls Qm hQm B hr hlk hw hl
  have hx := B.1.1
  have hb := B.1.2.1
  have hl : lv_has ls 3 [(0, .ref (g.2.1 a0)), (1, .int a1)] := hl
  refine lv_aload_n hx hb dX8_inDoubt_0 rfl (lv_at hl 0 rfl) ?_
  obtain ⟨h1, hf⟩ := mChk hf
  obtain ⟨x2, e3, hf⟩ := mBind hf
  refine mgr B hw flX8_10 rfl h1 e3 dX8_inDoubt_1 ?_
  refine lv_aload_n hx hb dX8_inDoubt_4 rfl (lv_at hl 0 rfl) ?_
  obtain ⟨x4, e5, hf⟩ := mBind hf
  refine mgr B hw flX8_19 rfl h1 e5 dX8_inDoubt_5 ?_
  obtain ⟨h6, hf⟩ := mChk hf
  obtain ⟨x7, e8, hf⟩ := mBind hf
  refine mgr B hw flX8_146 rfl h6 e8 dX8_inDoubt_8 ?_
  refine lv_iload_n hx hb dX8_inDoubt_11 rfl (lv_at hl 1 rfl) ?_
  obtain ⟨h9, hf⟩ := mChk hf
  refine mld1 B hw h9 dX8_inDoubt_12 ?_
  obtain ⟨h10, hf⟩ := mChk hf
  obtain ⟨z11, e12, hf⟩ := mBind hf
  refine mcallV (rest := []) (ci := 2) B hw [.int (I0 x7 (a1).toNatClampNeg)] clX8_118 rfl h10 (r_X2_find l g K n hJ hO x2 (I0 x7 (a1).toNatClampNeg) I0 J0 R0 z11 e12) ⟨rfl, rfl, Nat.le_of_ble_eq_true rfl, Nat.le_of_ble_eq_true rfl⟩ rfl hl.1 (Nat.le_of_ble_eq_true rfl) ⟨Nat.zero_le _, Nat.zero_le _⟩ dX8_inDoubt_13 (fun H locs hw => ?_)
  refine W.eq (g2 := F0 m 16 ls [va_rf (Option.map g.2.1 z11)]) rfl ?_
  refine mso_n (lv' := [(2, va_rf (Option.map g.2.1 z11)), (0, .ref (g.2.1 a0)), (1, .int a1)]) hx hb dX8_inDoubt_16 rfl hl (by decide) rfl (fun ls hl => ?_)
  refine mlo_n hx hb dX8_inDoubt_17 rfl (lv_at hl 0 rfl) ?_
  rcases z11 with _ | x13
  · replace hf := mON0 hf
    replace hl : lv_has ls 3 [(2, .null), (0, .ref (g.2.1 a0)), (1, .int a1)] := hl
    refine W.eq (g2 := F0 m 18 ls [.null]) rfl ?_
    refine lv_ifnullN (tgt := 34) hx hb dX8_inDoubt_18 (by decide) ?_
    refine lv_iconst (v := (0 : Int32)) hx hb dX8_inDoubt_34 (by decide) ?_
    rw [hQm, ← Option.some.inj hf]
    exact mrz (v := false) hx hb hr hlk hw dX8_inDoubt_35
  · replace hf := mON1 hf
    replace hl : lv_has ls 3 [(2, .ref (g.2.1 x13)), (0, .ref (g.2.1 a0)), (1, .int a1)] := hl
    refine W.eq (g2 := F0 m 18 ls [.ref (g.2.1 x13)]) rfl ?_
    refine lv_ifnull hx hb dX8_inDoubt_18 ?_
    refine lv_aload_n hx hb dX8_inDoubt_21 rfl (lv_at hl 1 rfl) ?_
    refine lv_iload_n hx hb dX8_inDoubt_22 rfl (lv_at hl 2 rfl) ?_
    refine lv_aload_n hx hb dX8_inDoubt_23 rfl (lv_at hl 0 rfl) ?_
    obtain ⟨z14, e15, hf⟩ := mBind hf
    refine mcallV (rest := []) (ci := 8) B hw [.int a1, .ref (g.2.1 x13)] clX8_162 rfl h1 (r_X8_barOf l g K n hJ hO a0 a1 x13 I0 J0 R0 z14 e15) ⟨rfl, rfl, Nat.le_of_ble_eq_true rfl, Nat.le_of_ble_eq_true rfl⟩ rfl hl.1 (Nat.le_of_ble_eq_true rfl) ⟨Nat.zero_le _, Nat.zero_le _⟩ dX8_inDoubt_24 (fun H locs hw => ?_)
    refine W.eq (g2 := F0 m 27 ls [.int z14.1]) rfl ?_
    refine lv_if_eq (tgt := 34) hx hb dX8_inDoubt_27 (by decide) (fun c16 => ?_) (fun c16 => ?_)
    · replace hf := mT1 c16 hf
      refine lv_iconst (v := (0 : Int32)) hx hb dX8_inDoubt_34 (by decide) ?_
      rw [hQm, ← Option.some.inj hf]
      exact mrz (v := false) hx hb hr hlk hw dX8_inDoubt_35
    · replace hf := mF1 c16 hf
      refine lv_iconst (v := (1 : Int32)) hx hb dX8_inDoubt_30 (by decide) ?_
      refine lv_goto (tgt := 35) hx hb dX8_inDoubt_31 (by decide) ?_
      rw [hQm, ← Option.some.inj hf]
      exact mrz (v := true) hx hb hr hlk hw dX8_inDoubt_35
def f_X8_named (K : mK) (a0 : Nat) (a1 : Int32) (a2 : Int32) (I0 : mI) (J0 : mJ) (R0 : mR) : Option (Int32 × mI) :=
  if K a0 = (0, 8) then
  (R0 a0 1).bind fun x2 =>
  if K x2 = (0, 0) then
  (f_X0_leaderOf K x2 a1 I0 J0 R0).bind fun z5 =>
  if z5 = (-1 : Int32) then
  some ((-1 : Int32), I0)
  else
  (f_X8_within K a2 (0 : Int32) (1 : Int32) I0 J0 R0).bind fun z8 =>
  if (mb z8) = 0 then
  some ((-1 : Int32), I0)
  else
  if a2 = 0 then
  (R0 x2 2).bind fun x15 =>
  if mIx K x15 1 z5 then
  some ((I0 x15 (z5).toNatClampNeg), I0)
  else none
  else
  (f_X8_inDoubt K a0 z5 I0 J0 R0).bind fun z12 =>
  if (mb z12.1) = 0 then
  some ((0 : Int32), z12.2)
  else
  some ((1 : Int32), z12.2)
  else none
  else none
set_option maxHeartbeats 4000000 in
set_option maxRecDepth 100000 in
theorem r_X8_named (l : Launch) (g : mG) (K : mK) (n : Nat) (hJ : mInj g n) (hO : mOk K n) (a0 : Nat) (a1 : Int32) (a2 : Int32) (I0 : mI) (J0 : mJ) (R0 : mR) (out : (Int32 × mI)) (hf : f_X8_named K a0 a1 a2 I0 J0 R0 = some out) : Met l yX8_named (mWs yX8_named cX8_named 4 (some .int)) ({ frames := 5, cells := 0, slots := 0, locals := 110 }) (va_Pc [.ref (g.2.1 a0), .int a1, .int a2] (mB g K n I0 J0 R0)) (mQ g K n (some (.int out.1)) out.2 J0 R0) 0 0 (mA g n) := by
  unfold f_X8_named at hf
  refine mStart RX8 hJ hO (by decide) rfl (Nat.le_of_ble_eq_true rfl) ?_
  intro p e s m below meth c ls Qm hQm B hr hlk hw hl
  have hx := B.1.1
  have hb := B.1.2.1
  have hl : lv_has ls 4 [(0, .ref (g.2.1 a0)), (1, .int a1), (2, .int a2)] := hl
  refine lv_aload_n hx hb dX8_named_0 rfl (lv_at hl 0 rfl) ?_
  obtain ⟨h1, hf⟩ := mChk hf
  obtain ⟨x2, e3, hf⟩ := mBind hf
  refine mgr B hw flX8_19 rfl h1 e3 dX8_named_1 ?_
  refine lv_iload_n hx hb dX8_named_4 rfl (lv_at hl 1 rfl) ?_
  obtain ⟨h4, hf⟩ := mChk hf
  obtain ⟨z5, e6, hf⟩ := mBind hf
  refine mcallV (rest := []) (ci := 0) B hw [.int a1] clX8_129 rfl h4 (r_X0_leaderOf l g K n hJ hO x2 a1 I0 J0 R0 z5 e6) ⟨rfl, rfl, Nat.le_of_ble_eq_true rfl, Nat.le_of_ble_eq_true rfl⟩ rfl hl.1 (Nat.le_of_ble_eq_true rfl) ⟨Nat.zero_le _, Nat.zero_le _⟩ dX8_named_5 (fun H locs hw => ?_)
  refine W.eq (g2 := F0 m 8 ls [.int z5]) rfl ?_
  refine lv_istore_n (lv' := [(3, .int z5), (0, .ref (g.2.1 a0)), (1, .int a1), (2, .int a2)]) hx hb dX8_named_8 rfl hl (by decide) rfl (fun ls hl => ?_)
  refine lv_iload_n hx hb dX8_named_9 rfl (lv_at hl 0 rfl) ?_
  refine lv_iconst (v := (-1 : Int32)) hx hb dX8_named_10 (by decide) ?_
  refine lv_icmp_eq (tgt := 23) hx hb dX8_named_11 (by decide) (fun c7 => ?_) (fun c7 => ?_)
  · replace hf := mT1 c7 hf
    refine lv_iconst (v := (-1 : Int32)) hx hb dX8_named_23 (by decide) ?_
    rw [hQm, ← Option.some.inj hf]
    exact mri hx hb hr hlk hw dX8_named_24
  · replace hf := mF1 c7 hf
    refine lv_iload_n hx hb dX8_named_14 rfl (lv_at hl 3 rfl) ?_
    refine lv_iconst (v := (0 : Int32)) hx hb dX8_named_15 (by decide) ?_
    refine lv_iconst (v := (1 : Int32)) hx hb dX8_named_16 (by decide) ?_
    obtain ⟨z8, e9, hf⟩ := mBind hf
    refine mcallS (rest := []) B hw [.int a2, .int (0 : Int32), .int (1 : Int32)] clX8_82 (r_X8_within l g K n hJ hO a2 (0 : Int32) (1 : Int32) I0 J0 R0 z8 e9) ⟨rfl, rfl, Nat.le_of_ble_eq_true rfl, Nat.le_of_ble_eq_true rfl⟩ rfl hl.1 (Nat.le_of_ble_eq_true rfl) ⟨Nat.zero_le _, Nat.zero_le _⟩ dX8_named_17 (fun H locs hw => ?_)
    refine W.eq (g2 := F0 m 20 ls [.int (mb z8)]) rfl ?_
    refine lv_if_ne (tgt := 25) hx hb dX8_named_20 (by decide) (fun c10 => ?_) (fun c10 => ?_)
    · replace hf := mF1 c10 hf
      refine lv_iload_n hx hb dX8_named_25 rfl (lv_at hl 3 rfl) ?_
      refine lv_if_ne (tgt := 39) hx hb dX8_named_26 (by decide) (fun c11 => ?_) (fun c11 => ?_)
      · replace hf := mF1 c11 hf
        refine lv_aload_n hx hb dX8_named_39 rfl (lv_at hl 1 rfl) ?_
        refine lv_iload_n hx hb dX8_named_40 rfl (lv_at hl 0 rfl) ?_
        obtain ⟨z12, e13, hf⟩ := mBind hf
        refine mcallV (rest := []) (ci := 8) B hw [.int z5] clX8_199 rfl h1 (r_X8_inDoubt l g K n hJ hO a0 z5 I0 J0 R0 z12 e13) ⟨rfl, rfl, Nat.le_of_ble_eq_true rfl, Nat.le_of_ble_eq_true rfl⟩ rfl hl.1 (Nat.le_of_ble_eq_true rfl) ⟨Nat.zero_le _, Nat.zero_le _⟩ dX8_named_41 (fun H locs hw => ?_)
        refine W.eq (g2 := F0 m 44 ls [.int (mb z12.1)]) rfl ?_
        refine lv_if_eq (tgt := 51) hx hb dX8_named_44 (by decide) (fun c14 => ?_) (fun c14 => ?_)
        · replace hf := mT1 c14 hf
          refine lv_iconst (v := (0 : Int32)) hx hb dX8_named_51 (by decide) ?_
          rw [hQm, ← Option.some.inj hf]
          exact mri hx hb hr hlk hw dX8_named_52
        · replace hf := mF1 c14 hf
          refine lv_iconst (v := (1 : Int32)) hx hb dX8_named_47 (by decide) ?_
          refine lv_goto (tgt := 52) hx hb dX8_named_48 (by decide) ?_
          rw [hQm, ← Option.some.inj hf]
          exact mri hx hb hr hlk hw dX8_named_52
      · replace hf := mT1 c11 hf
        refine lv_aload_n hx hb dX8_named_29 rfl (lv_at hl 1 rfl) ?_
        refine mgr B hw flX8_19 rfl h1 e3 dX8_named_30 ?_
        obtain ⟨x15, e16, hf⟩ := mBind hf
        refine mgr B hw flX8_146 rfl h4 e16 dX8_named_33 ?_
        refine lv_iload_n hx hb dX8_named_36 rfl (lv_at hl 0 rfl) ?_
        obtain ⟨h17, hf⟩ := mChk hf
        refine mld1 B hw h17 dX8_named_37 ?_
        rw [hQm, ← Option.some.inj hf]
        exact mri hx hb hr hlk hw dX8_named_38
    · replace hf := mT1 c10 hf
      refine lv_iconst (v := (-1 : Int32)) hx hb dX8_named_23 (by decide) ?_
      rw [hQm, ← Option.some.inj hf]
      exact mri hx hb hr hlk hw dX8_named_24
def f_X8_unname (K : mK) (a0 : Nat) (a1 : Int32) (I0 : mI) (J0 : mJ) (R0 : mR) : Option (Bool × mI) :=
  if K a0 = (0, 8) then
  (R0 a0 1).bind fun x2 =>
  if K x2 = (0, 0) then
  (f_X0_leaderOf K x2 a1 I0 J0 R0).bind fun z5 =>
  if z5 = (-1 : Int32) then
  some (false, I0)
  else
  (f_X8_inDoubt K a0 z5 I0 J0 R0).bind fun z8 =>
  if (mb z8.1) = 0 then
  some (false, z8.2)
  else
  (R0 x2 2).bind fun x11 =>
  if mIx K x11 1 z5 then
  (some (mup z8.2 x11 (z5).toNatClampNeg (-1 : Int32))).bind fun I14 =>
  some (true, I14)
  else none
  else none
  else none
set_option maxHeartbeats 4000000 in
set_option maxRecDepth 100000 in
theorem r_X8_unname (l : Launch) (g : mG) (K : mK) (n : Nat) (hJ : mInj g n) (hO : mOk K n) (a0 : Nat) (a1 : Int32) (I0 : mI) (J0 : mJ) (R0 : mR) (out : (Bool × mI)) (hf : f_X8_unname K a0 a1 I0 J0 R0 = some out) : Met l yX8_unname (mWs yX8_unname cX8_unname 3 (some .boolean)) ({ frames := 5, cells := 0, slots := 0, locals := 110 }) (va_Pc [.ref (g.2.1 a0), .int a1] (mB g K n I0 J0 R0)) (mQ g K n (some (.int (mb out.1))) out.2 J0 R0) 0 0 (mA g n) := by
  unfold f_X8_unname at hf
  refine mStart RX8 hJ hO (by decide) rfl (Nat.le_of_ble_eq_true rfl) ?_
  intro p e s m below meth c ls Qm hQm B hr hlk hw hl
  have hx := B.1.1
  have hb := B.1.2.1
  have hl : lv_has ls 3 [(0, .ref (g.2.1 a0)), (1, .int a1)] := hl
  refine lv_aload_n hx hb dX8_unname_0 rfl (lv_at hl 0 rfl) ?_
  obtain ⟨h1, hf⟩ := mChk hf
  obtain ⟨x2, e3, hf⟩ := mBind hf
  refine mgr B hw flX8_19 rfl h1 e3 dX8_unname_1 ?_
  refine lv_iload_n hx hb dX8_unname_4 rfl (lv_at hl 1 rfl) ?_
  obtain ⟨h4, hf⟩ := mChk hf
  obtain ⟨z5, e6, hf⟩ := mBind hf
  refine mcallV (rest := []) (ci := 0) B hw [.int a1] clX8_129 rfl h4 (r_X0_leaderOf l g K n hJ hO x2 a1 I0 J0 R0 z5 e6) ⟨rfl, rfl, Nat.le_of_ble_eq_true rfl, Nat.le_of_ble_eq_true rfl⟩ rfl hl.1 (Nat.le_of_ble_eq_true rfl) ⟨Nat.zero_le _, Nat.zero_le _⟩ dX8_unname_5 (fun H locs hw => ?_)
  refine W.eq (g2 := F0 m 8 ls [.int z5]) rfl ?_
  refine lv_istore_n (lv' := [(2, .int z5), (0, .ref (g.2.1 a0)), (1, .int a1)]) hx hb dX8_unname_8 rfl hl (by decide) rfl (fun ls hl => ?_)
  refine lv_iload_n hx hb dX8_unname_9 rfl (lv_at hl 0 rfl) ?_
  refine lv_iconst (v := (-1 : Int32)) hx hb dX8_unname_10 (by decide) ?_
  refine lv_icmp_eq (tgt := 22) hx hb dX8_unname_11 (by decide) (fun c7 => ?_) (fun c7 => ?_)
  · replace hf := mT1 c7 hf
    refine lv_iconst (v := (0 : Int32)) hx hb dX8_unname_22 (by decide) ?_
    rw [hQm, ← Option.some.inj hf]
    exact mrz (v := false) hx hb hr hlk hw dX8_unname_23
  · replace hf := mF1 c7 hf
    refine lv_aload_n hx hb dX8_unname_14 rfl (lv_at hl 1 rfl) ?_
    refine lv_iload_n hx hb dX8_unname_15 rfl (lv_at hl 0 rfl) ?_
    obtain ⟨z8, e9, hf⟩ := mBind hf
    refine mcallV (rest := []) (ci := 8) B hw [.int z5] clX8_199 rfl h1 (r_X8_inDoubt l g K n hJ hO a0 z5 I0 J0 R0 z8 e9) ⟨rfl, rfl, Nat.le_of_ble_eq_true rfl, Nat.le_of_ble_eq_true rfl⟩ rfl hl.1 (Nat.le_of_ble_eq_true rfl) ⟨Nat.zero_le _, Nat.zero_le _⟩ dX8_unname_16 (fun H locs hw => ?_)
    refine W.eq (g2 := F0 m 19 ls [.int (mb z8.1)]) rfl ?_
    refine lv_if_ne (tgt := 24) hx hb dX8_unname_19 (by decide) (fun c10 => ?_) (fun c10 => ?_)
    · replace hf := mF1 c10 hf
      refine lv_aload_n hx hb dX8_unname_24 rfl (lv_at hl 1 rfl) ?_
      refine mgr B hw flX8_19 rfl h1 e3 dX8_unname_25 ?_
      obtain ⟨x11, e12, hf⟩ := mBind hf
      refine mgr B hw flX8_146 rfl h4 e12 dX8_unname_28 ?_
      refine lv_iload_n hx hb dX8_unname_31 rfl (lv_at hl 0 rfl) ?_
      refine lv_iconst (v := (-1 : Int32)) hx hb dX8_unname_32 (by decide) ?_
      obtain ⟨h13, hf⟩ := mChk hf
      obtain ⟨I14, e15, hf⟩ := mLet hf
      refine mst1 B hw h13 dX8_unname_33 (fun H locs hw => ?_)
      rw [← e15] at hw
      refine lv_iconst (v := (1 : Int32)) hx hb dX8_unname_34 (by decide) ?_
      rw [hQm, ← Option.some.inj hf]
      exact mrz (v := true) hx hb hr hlk hw dX8_unname_35
    · replace hf := mT1 c10 hf
      refine lv_iconst (v := (0 : Int32)) hx hb dX8_unname_22 (by decide) ?_
      rw [hQm, ← Option.some.inj hf]
      exact mrz (v := false) hx hb hr hlk hw dX8_unname_23
def f_X8_feed (K : mK) (a0 : Nat) (a1 : Int32) (a2 : Int32) (a3 : Int32) (a4 : Int32) (a5 : Int32) (I0 : mI) (J0 : mJ) (R0 : mR) : Option (Int32 × mI) :=
  if K a0 = (0, 8) then
  (R0 a0 4).bind fun x2 =>
  if K x2 = (0, 7) then
  (f_X7_hasRoomFor K x2 (20 : Int32) I0 J0 R0).bind fun z5 =>
  if (mb z5) = 0 then
  some ((-1 : Int32), I0)
  else
  (f_X7_put K x2 a1 I0 J0 R0).bind fun z8 =>
  (f_X7_put K x2 a2 z8 J0 R0).bind fun z10 =>
  (f_X7_put K x2 a3 z10 J0 R0).bind fun z12 =>
  (f_X7_put K x2 a4 z12 J0 R0).bind fun z14 =>
  (f_X7_put K x2 a5 z14 J0 R0).bind fun z16 =>
  some ((z16 x2 1), z16)
  else none
  else none
set_option maxHeartbeats 4000000 in
set_option maxRecDepth 100000 in
theorem r_X8_feed (l : Launch) (g : mG) (K : mK) (n : Nat) (hJ : mInj g n) (hO : mOk K n) (a0 : Nat) (a1 : Int32) (a2 : Int32) (a3 : Int32) (a4 : Int32) (a5 : Int32) (I0 : mI) (J0 : mJ) (R0 : mR) (out : (Int32 × mI)) (hf : f_X8_feed K a0 a1 a2 a3 a4 a5 I0 J0 R0 = some out) : Met l yX8_feed (mWs yX8_feed cX8_feed 6 (some .int)) ({ frames := 1, cells := 0, slots := 0, locals := 22 }) (va_Pc [.ref (g.2.1 a0), .int a1, .int a2, .int a3, .int a4, .int a5] (mB g K n I0 J0 R0)) (mQ g K n (some (.int out.1)) out.2 J0 R0) 0 0 (mA g n) := by
  unfold f_X8_feed at hf
  refine mStart RX8 hJ hO (by decide) rfl (Nat.le_of_ble_eq_true rfl) ?_
  intro p e s m below meth c ls Qm hQm B hr hlk hw hl
  have hx := B.1.1
  have hb := B.1.2.1
  have hl : lv_has ls 6 [(0, .ref (g.2.1 a0)), (1, .int a1), (2, .int a2), (3, .int a3), (4, .int a4), (5, .int a5)] := hl
  refine lv_aload_n hx hb dX8_feed_0 rfl (lv_at hl 0 rfl) ?_
  obtain ⟨h1, hf⟩ := mChk hf
  obtain ⟨x2, e3, hf⟩ := mBind hf
  refine mgr B hw flX8_40 rfl h1 e3 dX8_feed_1 ?_
  refine lv_bipush (v := (20 : Int32)) hx hb dX8_feed_4 (by decide) ?_
  obtain ⟨h4, hf⟩ := mChk hf
  obtain ⟨z5, e6, hf⟩ := mBind hf
  refine mcallV (rest := []) (ci := 7) B hw [.int (20 : Int32)] clX8_203 rfl h4 (r_X7_hasRoomFor l g K n hJ hO x2 (20 : Int32) I0 J0 R0 z5 e6) ⟨rfl, rfl, Nat.le_of_ble_eq_true rfl, Nat.le_of_ble_eq_true rfl⟩ rfl hl.1 (Nat.le_of_ble_eq_true rfl) ⟨Nat.zero_le _, Nat.zero_le _⟩ dX8_feed_6 (fun H locs hw => ?_)
  refine W.eq (g2 := F0 m 9 ls [.int (mb z5)]) rfl ?_
  refine lv_if_ne (tgt := 14) hx hb dX8_feed_9 (by decide) (fun c7 => ?_) (fun c7 => ?_)
  · replace hf := mF1 c7 hf
    refine lv_aload_n hx hb dX8_feed_14 rfl (lv_at hl 0 rfl) ?_
    refine mgr B hw flX8_40 rfl h1 e3 dX8_feed_15 ?_
    refine lv_iload_n hx hb dX8_feed_18 rfl (lv_at hl 1 rfl) ?_
    obtain ⟨z8, e9, hf⟩ := mBind hf
    refine mcallV (rest := []) (ci := 7) B hw [.int a1] clX8_206 rfl h4 (r_X7_put l g K n hJ hO x2 a1 I0 J0 R0 z8 e9) ⟨rfl, rfl, Nat.le_of_ble_eq_true rfl, Nat.le_of_ble_eq_true rfl⟩ rfl hl.1 (Nat.le_of_ble_eq_true rfl) ⟨Nat.zero_le _, Nat.zero_le _⟩ dX8_feed_19 (fun H locs hw => ?_)
    refine W.eq (g2 := F0 m 22 ls []) rfl ?_
    refine lv_aload_n hx hb dX8_feed_22 rfl (lv_at hl 0 rfl) ?_
    refine mgr B hw flX8_40 rfl h1 e3 dX8_feed_23 ?_
    refine lv_iload_n hx hb dX8_feed_26 rfl (lv_at hl 2 rfl) ?_
    obtain ⟨z10, e11, hf⟩ := mBind hf
    refine mcallV (rest := []) (ci := 7) B hw [.int a2] clX8_206 rfl h4 (r_X7_put l g K n hJ hO x2 a2 z8 J0 R0 z10 e11) ⟨rfl, rfl, Nat.le_of_ble_eq_true rfl, Nat.le_of_ble_eq_true rfl⟩ rfl hl.1 (Nat.le_of_ble_eq_true rfl) ⟨Nat.zero_le _, Nat.zero_le _⟩ dX8_feed_27 (fun H locs hw => ?_)
    refine W.eq (g2 := F0 m 30 ls []) rfl ?_
    refine lv_aload_n hx hb dX8_feed_30 rfl (lv_at hl 0 rfl) ?_
    refine mgr B hw flX8_40 rfl h1 e3 dX8_feed_31 ?_
    refine lv_iload_n hx hb dX8_feed_34 rfl (lv_at hl 3 rfl) ?_
    obtain ⟨z12, e13, hf⟩ := mBind hf
    refine mcallV (rest := []) (ci := 7) B hw [.int a3] clX8_206 rfl h4 (r_X7_put l g K n hJ hO x2 a3 z10 J0 R0 z12 e13) ⟨rfl, rfl, Nat.le_of_ble_eq_true rfl, Nat.le_of_ble_eq_true rfl⟩ rfl hl.1 (Nat.le_of_ble_eq_true rfl) ⟨Nat.zero_le _, Nat.zero_le _⟩ dX8_feed_35 (fun H locs hw => ?_)
    refine W.eq (g2 := F0 m 38 ls []) rfl ?_
    refine lv_aload_n hx hb dX8_feed_38 rfl (lv_at hl 0 rfl) ?_
    refine mgr B hw flX8_40 rfl h1 e3 dX8_feed_39 ?_
    refine lv_iload hx hb dX8_feed_42 (lv_at hl 4 rfl) ?_
    obtain ⟨z14, e15, hf⟩ := mBind hf
    refine mcallV (rest := []) (ci := 7) B hw [.int a4] clX8_206 rfl h4 (r_X7_put l g K n hJ hO x2 a4 z12 J0 R0 z14 e15) ⟨rfl, rfl, Nat.le_of_ble_eq_true rfl, Nat.le_of_ble_eq_true rfl⟩ rfl hl.1 (Nat.le_of_ble_eq_true rfl) ⟨Nat.zero_le _, Nat.zero_le _⟩ dX8_feed_44 (fun H locs hw => ?_)
    refine W.eq (g2 := F0 m 47 ls []) rfl ?_
    refine lv_aload_n hx hb dX8_feed_47 rfl (lv_at hl 0 rfl) ?_
    refine mgr B hw flX8_40 rfl h1 e3 dX8_feed_48 ?_
    refine lv_iload hx hb dX8_feed_51 (lv_at hl 5 rfl) ?_
    obtain ⟨z16, e17, hf⟩ := mBind hf
    refine mcallV (rest := []) (ci := 7) B hw [.int a5] clX8_206 rfl h4 (r_X7_put l g K n hJ hO x2 a5 z14 J0 R0 z16 e17) ⟨rfl, rfl, Nat.le_of_ble_eq_true rfl, Nat.le_of_ble_eq_true rfl⟩ rfl hl.1 (Nat.le_of_ble_eq_true rfl) ⟨Nat.zero_le _, Nat.zero_le _⟩ dX8_feed_53 (fun H locs hw => ?_)
    refine W.eq (g2 := F0 m 56 ls []) rfl ?_
    refine lv_aload_n hx hb dX8_feed_56 rfl (lv_at hl 0 rfl) ?_
    refine mgr B hw flX8_40 rfl h1 e3 dX8_feed_57 ?_
    refine mgi B hw flX8_209 rfl h4 dX8_feed_60 ?_
    rw [hQm, ← Option.some.inj hf]
    exact mri hx hb hr hlk hw dX8_feed_63
  · replace hf := mT1 c7 hf
    refine lv_iconst (v := (-1 : Int32)) hx hb dX8_feed_12 (by decide) ?_
    rw [hQm, ← Option.some.inj hf]
    exact mri hx hb hr hlk hw dX8_feed_13
def f_X8_law (K : mK) (a0 : Nat) (a1 : Int32) (I0 : mI) (J0 : mJ) (R0 : mR) : Option (Int32 × mI × mR) :=
  if a1 < 0 then
  some ((-2 : Int32), I0, R0)
  else
  if K a0 = (0, 8) then
  (R0 a0 4).bind fun x3 =>
  if K x3 = (0, 7) then
  if a1 ≤ (I0 x3 1) then
  (R0 a0 5).bind fun x7 =>
  (R0 x3 0).bind fun x9 =>
  (R0 a0 9).bind fun x11 =>
  if K x7 = (0, 5) then
  (f_X5_read K x7 x9 a1 x11 I0 J0 R0).bind fun z14 =>
  (z14.2.2 a0 4).bind fun x16 =>
  if K x16 = (0, 7) then
  (some (mup z14.2.1 x16 1 (0 : Int32))).bind fun I19 =>
  if z14.1 = (-1 : Int32) then
  some (z14.1, I19, z14.2.2)
  else
  (z14.2.2 a0 8).bind fun x22 =>
  (z14.2.2 a0 9).bind fun x24 =>
  (some (mup z14.2.2 a0 8 (some x24))).bind fun R26 =>
  (some (mup R26 a0 9 (some x22))).bind fun R28 =>
  some (z14.1, I19, R28)
  else none
  else none
  else
  some ((-2 : Int32), I0, R0)
  else none
  else none
set_option maxHeartbeats 4000000 in
set_option maxRecDepth 100000 in
theorem r_X8_law (l : Launch) (g : mG) (K : mK) (n : Nat) (hJ : mInj g n) (hO : mOk K n) (a0 : Nat) (a1 : Int32) (I0 : mI) (J0 : mJ) (R0 : mR) (out : (Int32 × mI × mR)) (hf : f_X8_law K a0 a1 I0 J0 R0 = some out) : Met l yX8_law (mWs yX8_law cX8_law 4 (some .int)) ({ frames := 8, cells := 0, slots := 0, locals := 203 }) (va_Pc [.ref (g.2.1 a0), .int a1] (mB g K n I0 J0 R0)) (mQ g K n (some (.int out.1)) out.2.1 J0 out.2.2) 0 0 (mA g n) := by
  unfold f_X8_law at hf
  refine mStart RX8 hJ hO (by decide) rfl (Nat.le_of_ble_eq_true rfl) ?_
  intro p e s m below meth c ls Qm hQm B hr hlk hw hl
  have hx := B.1.1
  have hb := B.1.2.1
  have hl : lv_has ls 4 [(0, .ref (g.2.1 a0)), (1, .int a1)] := hl
  refine lv_iload_n hx hb dX8_law_0 rfl (lv_at hl 1 rfl) ?_
  refine lv_if_lt (tgt := 15) hx hb dX8_law_1 (by decide) (fun c1 => ?_) (fun c1 => ?_)
  · replace hf := mT1 c1 hf
    refine lv_bipush (v := (-2 : Int32)) hx hb dX8_law_15 (by decide) ?_
    rw [hQm, ← Option.some.inj hf]
    exact mri hx hb hr hlk hw dX8_law_17
  · replace hf := mF1 c1 hf
    refine lv_iload_n hx hb dX8_law_4 rfl (lv_at hl 1 rfl) ?_
    refine lv_aload_n hx hb dX8_law_5 rfl (lv_at hl 0 rfl) ?_
    obtain ⟨h2, hf⟩ := mChk hf
    obtain ⟨x3, e4, hf⟩ := mBind hf
    refine mgr B hw flX8_40 rfl h2 e4 dX8_law_6 ?_
    obtain ⟨h5, hf⟩ := mChk hf
    refine mgi B hw flX8_209 rfl h5 dX8_law_9 ?_
    refine lv_icmp_le (tgt := 18) hx hb dX8_law_12 (by decide) (fun c6 => ?_) (fun c6 => ?_)
    · replace hf := mT1 c6 hf
      refine lv_aload_n hx hb dX8_law_18 rfl (lv_at hl 0 rfl) ?_
      obtain ⟨x7, e8, hf⟩ := mBind hf
      refine mgr B hw flX8_47 rfl h2 e8 dX8_law_19 ?_
      refine lv_aload_n hx hb dX8_law_22 rfl (lv_at hl 0 rfl) ?_
      refine mgr B hw flX8_40 rfl h2 e4 dX8_law_23 ?_
      obtain ⟨x9, e10, hf⟩ := mBind hf
      refine mgr B hw flX8_212 rfl h5 e10 dX8_law_26 ?_
      refine lv_iload_n hx hb dX8_law_29 rfl (lv_at hl 1 rfl) ?_
      refine lv_aload_n hx hb dX8_law_30 rfl (lv_at hl 0 rfl) ?_
      obtain ⟨x11, e12, hf⟩ := mBind hf
      refine mgr B hw flX8_68 rfl h2 e12 dX8_law_31 ?_
      obtain ⟨h13, hf⟩ := mChk hf
      obtain ⟨z14, e15, hf⟩ := mBind hf
      refine mcallV (rest := []) (ci := 5) B hw [.ref (g.2.1 x9), .int a1, .ref (g.2.1 x11)] clX8_216 rfl h13 (r_X5_read l g K n hJ hO x7 x9 a1 x11 I0 J0 R0 z14 e15) ⟨rfl, rfl, Nat.le_of_ble_eq_true rfl, Nat.le_of_ble_eq_true rfl⟩ rfl hl.1 (Nat.le_of_ble_eq_true rfl) ⟨Nat.zero_le _, Nat.zero_le _⟩ dX8_law_34 (fun H locs hw => ?_)
      refine W.eq (g2 := F0 m 37 ls [.int z14.1]) rfl ?_
      refine lv_istore_n (lv' := [(2, .int z14.1), (0, .ref (g.2.1 a0)), (1, .int a1)]) hx hb dX8_law_37 rfl hl (by decide) rfl (fun ls hl => ?_)
      refine lv_aload_n hx hb dX8_law_38 rfl (lv_at hl 1 rfl) ?_
      obtain ⟨x16, e17, hf⟩ := mBind hf
      refine mgr B hw flX8_40 rfl h2 e17 dX8_law_39 ?_
      refine lv_iconst (v := (0 : Int32)) hx hb dX8_law_42 (by decide) ?_
      obtain ⟨h18, hf⟩ := mChk hf
      obtain ⟨I19, e20, hf⟩ := mLet hf
      refine mpi B hw puX8_209 rfl h18 dX8_law_43 (fun H locs hw => ?_)
      rw [← e20] at hw
      refine lv_iload_n hx hb dX8_law_46 rfl (lv_at hl 0 rfl) ?_
      refine lv_iconst (v := (-1 : Int32)) hx hb dX8_law_47 (by decide) ?_
      refine lv_icmp_eq (tgt := 69) hx hb dX8_law_48 (by decide) (fun c21 => ?_) (fun c21 => ?_)
      · replace hf := mT1 c21 hf
        refine lv_iload_n hx hb dX8_law_69 rfl (lv_at hl 0 rfl) ?_
        rw [hQm, ← Option.some.inj hf]
        exact mri hx hb hr hlk hw dX8_law_70
      · replace hf := mF1 c21 hf
        refine lv_aload_n hx hb dX8_law_51 rfl (lv_at hl 1 rfl) ?_
        obtain ⟨x22, e23, hf⟩ := mBind hf
        refine mgr B hw flX8_64 rfl h2 e23 dX8_law_52 ?_
        refine lv_astore_n (lv' := [(3, .ref (g.2.1 x22)), (2, .int z14.1), (0, .ref (g.2.1 a0)), (1, .int a1)]) hx hb dX8_law_55 rfl hl (by decide) rfl (fun ls hl => ?_)
        refine lv_aload_n hx hb dX8_law_56 rfl (lv_at hl 2 rfl) ?_
        refine lv_aload_n hx hb dX8_law_57 rfl (lv_at hl 2 rfl) ?_
        obtain ⟨x24, e25, hf⟩ := mBind hf
        refine mgr B hw flX8_68 rfl h2 e25 dX8_law_58 ?_
        obtain ⟨R26, e27, hf⟩ := mLet hf
        refine mpr B hw puX8_64 rfl h2 rfl rfl dX8_law_61 (fun H locs hw => ?_)
        rw [← e27] at hw
        refine lv_aload_n hx hb dX8_law_64 rfl (lv_at hl 2 rfl) ?_
        refine lv_aload_n hx hb dX8_law_65 rfl (lv_at hl 0 rfl) ?_
        obtain ⟨R28, e29, hf⟩ := mLet hf
        refine mpr B hw puX8_68 rfl h2 rfl rfl dX8_law_66 (fun H locs hw => ?_)
        rw [← e29] at hw
        refine lv_iload_n hx hb dX8_law_69 rfl (lv_at hl 1 rfl) ?_
        rw [hQm, ← Option.some.inj hf]
        exact mri hx hb hr hlk hw dX8_law_70
    · replace hf := mF1 c6 hf
      refine lv_bipush (v := (-2 : Int32)) hx hb dX8_law_15 (by decide) ?_
      rw [hQm, ← Option.some.inj hf]
      exact mri hx hb hr hlk hw dX8_law_17
def f_X8_fault (K : mK) (a0 : Nat) (I0 : mI) (J0 : mJ) (R0 : mR) : Option Int32 :=
  if K a0 = (0, 8) then
  (R0 a0 5).bind fun x2 =>
  if K x2 = (0, 5) then
  some (I0 x2 4)
  else none
  else none
set_option maxHeartbeats 4000000 in
set_option maxRecDepth 100000 in
theorem r_X8_fault (l : Launch) (g : mG) (K : mK) (n : Nat) (hJ : mInj g n) (hO : mOk K n) (a0 : Nat) (I0 : mI) (J0 : mJ) (R0 : mR) (out : Int32) (hf : f_X8_fault K a0 I0 J0 R0 = some out) : Met l yX8_fault (mWs yX8_fault cX8_fault 1 (some .int)) ({ frames := 0, cells := 0, slots := 0, locals := 0 }) (va_Pc [.ref (g.2.1 a0)] (mB g K n I0 J0 R0)) (mQ g K n (some (.int out)) I0 J0 R0) 0 0 (mA g n) := by
  unfold f_X8_fault at hf
  refine mStart RX8 hJ hO (by decide) rfl (Nat.le_of_ble_eq_true rfl) ?_
  intro p e s m below meth c ls Qm hQm B hr hlk hw hl
  have hx := B.1.1
  have hb := B.1.2.1
  have hl : lv_has ls 1 [(0, .ref (g.2.1 a0))] := hl
  refine lv_aload_n hx hb dX8_fault_0 rfl (lv_at hl 0 rfl) ?_
  obtain ⟨h1, hf⟩ := mChk hf
  obtain ⟨x2, e3, hf⟩ := mBind hf
  refine mgr B hw flX8_47 rfl h1 e3 dX8_fault_1 ?_
  obtain ⟨h4, hf⟩ := mChk hf
  refine mgi B hw flX8_220 rfl h4 dX8_fault_4 ?_
  rw [hQm, ← Option.some.inj hf]
  exact mri hx hb hr hlk hw dX8_fault_7
def f_X8_howManyInDoubt_L4 (K : mK) (v0 : Nat) (J0 : mJ) (R0 : mR) : Nat → Int32 → Int32 → mI → Option (Int32 × mI)
  | 0, _, _, _ => none
  | N + 1, v1, v2, I =>
  if K v0 = (0, 8) then
  (R0 v0 1).bind fun x2 =>
  if K x2 = (0, 0) then
  (R0 x2 0).bind fun x5 =>
  if K x5 = (0, 2) then
  if (I x5 1) ≤ v2 then
  some (v1, I)
  else
  (f_X0_leads K x2 v2 I J0 R0).bind fun z9 =>
  if (mb z9) = 0 then
  f_X8_howManyInDoubt_L4 K v0 J0 R0 N v1 (v2 + (1 : Int32)) I
  else
  (f_X8_inDoubt K v0 v2 I J0 R0).bind fun z12 =>
  if (mb z12.1) = 0 then
  f_X8_howManyInDoubt_L4 K v0 J0 R0 N v1 (v2 + (1 : Int32)) z12.2
  else
  f_X8_howManyInDoubt_L4 K v0 J0 R0 N (v1 + (1 : Int32)) (v2 + (1 : Int32)) z12.2
  else none
  else none
  else none
def f_X8_howManyInDoubt (K : mK) (a0 : Nat) (I0 : mI) (J0 : mJ) (R0 : mR) : Option (Int32 × mI) :=
  (f_X8_howManyInDoubt_L4 K a0 J0 R0 8192 (0 : Int32) (0 : Int32) I0).bind fun z15 =>
  some (z15.1, z15.2)
set_option maxHeartbeats 4000000 in
set_option maxRecDepth 100000 in
theorem r_X8_howManyInDoubt (l : Launch) (g : mG) (K : mK) (n : Nat) (hJ : mInj g n) (hO : mOk K n) (a0 : Nat) (I0 : mI) (J0 : mJ) (R0 : mR) (out : (Int32 × mI)) (hf : f_X8_howManyInDoubt K a0 I0 J0 R0 = some out) : Met l yX8_howManyInDoubt (mWs yX8_howManyInDoubt cX8_howManyInDoubt 3 (some .int)) ({ frames := 5, cells := 0, slots := 0, locals := 110 }) (va_Pc [.ref (g.2.1 a0)] (mB g K n I0 J0 R0)) (mQ g K n (some (.int out.1)) out.2 J0 R0) 0 0 (mA g n) := by
  unfold f_X8_howManyInDoubt at hf
  refine mStart RX8 hJ hO (by decide) rfl (Nat.le_of_ble_eq_true rfl) ?_
  intro p e s m below meth c ls Qm hQm B hr hlk hw hl
  have hx := B.1.1
  have hb := B.1.2.1
  have hl : lv_has ls 3 [(0, .ref (g.2.1 a0))] := hl
  have L4 : ∀ (N : Nat) (v0 : Nat) (v1 : Int32) (v2 : Int32) (I : mI) (z : (Int32 × mI)) (H : Heap) (locs : List Loc) (ls : Array Slot), f_X8_howManyInDoubt_L4 K v0 J0 R0 N v1 v2 I = some z → mHp g K n s I J0 R0 H locs → lv_has ls 3 [(0, .ref (g.2.1 v0)), (1, .int v1), (2, .int v2)] → (∀ (H : Heap) (locs : List Loc) (ls : Array Slot), mHp g K n s z.2 J0 R0 H locs → lv_has ls 3 [(1, .int z.1)] → W p l e ({ frames := 5, cells := 0, slots := 0, locals := 110 } : Room) s m ([.ref (g.2.1 a0)] : List Value).toArray below meth c H locs 0 0 Qm (F0 m 46 ls [])) → W p l e ({ frames := 5, cells := 0, slots := 0, locals := 110 } : Room) s m ([.ref (g.2.1 a0)] : List Value).toArray below meth c H locs 0 0 Qm (F0 m 4 ls []) := by
    intro N
    induction N with
    | zero =>
      intro v0 v1 v2 I z H locs ls hf hw hl kx
      rw [f_X8_howManyInDoubt_L4] at hf
      cases hf
    | succ N ih =>
      intro v0 v1 v2 I z H locs ls hf hw hl kx
      rw [f_X8_howManyInDoubt_L4] at hf
      refine lv_iload_n hx hb dX8_howManyInDoubt_4 rfl (lv_at hl 2 rfl) ?_
      refine lv_aload_n hx hb dX8_howManyInDoubt_5 rfl (lv_at hl 0 rfl) ?_
      obtain ⟨h1, hf⟩ := mChk hf
      obtain ⟨x2, e3, hf⟩ := mBind hf
      refine mgr B hw flX8_19 rfl h1 e3 dX8_howManyInDoubt_6 ?_
      obtain ⟨h4, hf⟩ := mChk hf
      obtain ⟨x5, e6, hf⟩ := mBind hf
      refine mgr B hw flX8_75 rfl h4 e6 dX8_howManyInDoubt_9 ?_
      obtain ⟨h7, hf⟩ := mChk hf
      refine mgi B hw flX8_223 rfl h7 dX8_howManyInDoubt_12 ?_
      refine lv_icmp_ge (tgt := 46) hx hb dX8_howManyInDoubt_15 (by decide) (fun c8 => ?_) (fun c8 => ?_)
      · replace hf := mT1 c8 hf
        obtain rfl := Option.some.inj hf
        exact kx _ _ _ hw (lv_sub hl [1] rfl)
      · replace hf := mF1 c8 hf
        refine lv_aload_n hx hb dX8_howManyInDoubt_18 rfl (lv_at hl 0 rfl) ?_
        refine mgr B hw flX8_19 rfl h1 e3 dX8_howManyInDoubt_19 ?_
        refine lv_iload_n hx hb dX8_howManyInDoubt_22 rfl (lv_at hl 2 rfl) ?_
        obtain ⟨z9, e10, hf⟩ := mBind hf
        refine mcallV (rest := []) (ci := 0) B hw [.int v2] clX8_243 rfl h4 (r_X0_leads l g K n hJ hO x2 v2 I J0 R0 z9 e10) ⟨rfl, rfl, Nat.le_of_ble_eq_true rfl, Nat.le_of_ble_eq_true rfl⟩ rfl hl.1 (Nat.le_of_ble_eq_true rfl) ⟨Nat.zero_le _, Nat.zero_le _⟩ dX8_howManyInDoubt_23 (fun H locs hw => ?_)
        refine W.eq (g2 := F0 m 26 ls [.int (mb z9)]) rfl ?_
        refine lv_if_eq (tgt := 40) hx hb dX8_howManyInDoubt_26 (by decide) (fun c11 => ?_) (fun c11 => ?_)
        · replace hf := mT1 c11 hf
          refine lv_iinc (v := (v2 + (1 : Int32))) (lv' := [(2, .int (v2 + (1 : Int32))), (0, .ref (g.2.1 v0)), (1, .int v1)]) hx hb dX8_howManyInDoubt_40 hl (k := 2) rfl rfl (by decide) rfl (fun ls hl => ?_)
          refine lv_goto (tgt := 4) hx hb dX8_howManyInDoubt_43 (by decide) ?_
          exact ih v0 v1 (v2 + (1 : Int32)) I z _ _ _ hf hw (lv_sub hl [1, 2, 0] rfl) kx
        · replace hf := mF1 c11 hf
          refine lv_aload_n hx hb dX8_howManyInDoubt_29 rfl (lv_at hl 0 rfl) ?_
          refine lv_iload_n hx hb dX8_howManyInDoubt_30 rfl (lv_at hl 2 rfl) ?_
          obtain ⟨z12, e13, hf⟩ := mBind hf
          refine mcallV (rest := []) (ci := 8) B hw [.int v2] clX8_199 rfl h1 (r_X8_inDoubt l g K n hJ hO v0 v2 I J0 R0 z12 e13) ⟨rfl, rfl, Nat.le_of_ble_eq_true rfl, Nat.le_of_ble_eq_true rfl⟩ rfl hl.1 (Nat.le_of_ble_eq_true rfl) ⟨Nat.zero_le _, Nat.zero_le _⟩ dX8_howManyInDoubt_31 (fun H locs hw => ?_)
          refine W.eq (g2 := F0 m 34 ls [.int (mb z12.1)]) rfl ?_
          refine lv_if_eq (tgt := 40) hx hb dX8_howManyInDoubt_34 (by decide) (fun c14 => ?_) (fun c14 => ?_)
          · replace hf := mT1 c14 hf
            refine lv_iinc (v := (v2 + (1 : Int32))) (lv' := [(2, .int (v2 + (1 : Int32))), (0, .ref (g.2.1 v0)), (1, .int v1)]) hx hb dX8_howManyInDoubt_40 hl (k := 2) rfl rfl (by decide) rfl (fun ls hl => ?_)
            refine lv_goto (tgt := 4) hx hb dX8_howManyInDoubt_43 (by decide) ?_
            exact ih v0 v1 (v2 + (1 : Int32)) z12.2 z _ _ _ hf hw (lv_sub hl [1, 2, 0] rfl) kx
          · replace hf := mF1 c14 hf
            refine lv_iinc (v := (v1 + (1 : Int32))) (lv' := [(1, .int (v1 + (1 : Int32))), (0, .ref (g.2.1 v0)), (2, .int v2)]) hx hb dX8_howManyInDoubt_37 hl (k := 1) rfl rfl (by decide) rfl (fun ls hl => ?_)
            refine lv_iinc (v := (v2 + (1 : Int32))) (lv' := [(2, .int (v2 + (1 : Int32))), (1, .int (v1 + (1 : Int32))), (0, .ref (g.2.1 v0))]) hx hb dX8_howManyInDoubt_40 hl (k := 2) rfl rfl (by decide) rfl (fun ls hl => ?_)
            refine lv_goto (tgt := 4) hx hb dX8_howManyInDoubt_43 (by decide) ?_
            exact ih v0 (v1 + (1 : Int32)) (v2 + (1 : Int32)) z12.2 z _ _ _ hf hw (lv_sub hl [2, 1, 0] rfl) kx
  refine lv_iconst (v := (0 : Int32)) hx hb dX8_howManyInDoubt_0 (by decide) ?_
  refine lv_istore_n (lv' := [(1, .int (0 : Int32)), (0, .ref (g.2.1 a0))]) hx hb dX8_howManyInDoubt_1 rfl hl (by decide) rfl (fun ls hl => ?_)
  refine lv_iconst (v := (0 : Int32)) hx hb dX8_howManyInDoubt_2 (by decide) ?_
  refine lv_istore_n (lv' := [(2, .int (0 : Int32)), (1, .int (0 : Int32)), (0, .ref (g.2.1 a0))]) hx hb dX8_howManyInDoubt_3 rfl hl (by decide) rfl (fun ls hl => ?_)
  obtain ⟨z15, e16, hf⟩ := mBind hf
  refine L4 8192 a0 (0 : Int32) (0 : Int32) I0 z15 _ _ _ e16 hw (lv_sub hl [2, 1, 0] rfl) (fun H locs ls hw hl => ?_)
  refine lv_iload_n hx hb dX8_howManyInDoubt_46 rfl (lv_at hl 0 rfl) ?_
  rw [hQm, ← Option.some.inj hf]
  exact mri hx hb hr hlk hw dX8_howManyInDoubt_47
def f_X8_howManyUnpaired_L14 (K : mK) (v0 : Nat) (I : mI) (J : mJ) (R0 : mR) : Nat → Int32 → Int32 → Option Int32
  | 0, _, _ => none
  | N + 1, v1, v2 =>
  if (12 : Int32) ≤ v2 then
  some v1
  else
  if K v0 = (0, 8) then
  (R0 v0 3).bind fun x3 =>
  if K x3 = (0, 4) then
  (R0 x3 1).bind fun x6 =>
  if mIx K x6 1 v2 then
  if (I x6 (v2).toNatClampNeg) = (-1 : Int32) then
  f_X8_howManyUnpaired_L14 K v0 I J R0 N v1 (v2 + (1 : Int32))
  else
  f_X8_howManyUnpaired_L14 K v0 I J R0 N (v1 + (-1 : Int32)) (v2 + (1 : Int32))
  else none
  else none
  else none
def f_X8_howManyUnpaired (K : mK) (a0 : Nat) (I0 : mI) (J0 : mJ) (R0 : mR) : Option (Int32 × mI × mJ) :=
  if K a0 = (0, 8) then
  (f_X8_pairUp K a0 I0 J0 R0).bind fun z11 =>
  (R0 a0 0).bind fun x13 =>
  if K x13 = (0, 2) then
  (f_X8_howManyUnpaired_L14 K a0 z11.1 z11.2 R0 8192 (z11.1 x13 1) (0 : Int32)).bind fun z16 =>
  some (z16, z11.1, z11.2)
  else none
  else none
set_option maxHeartbeats 4000000 in
set_option maxRecDepth 100000 in
theorem r_X8_howManyUnpaired (l : Launch) (g : mG) (K : mK) (n : Nat) (hJ : mInj g n) (hO : mOk K n) (a0 : Nat) (I0 : mI) (J0 : mJ) (R0 : mR) (out : (Int32 × mI × mJ)) (hf : f_X8_howManyUnpaired K a0 I0 J0 R0 = some out) : Met l yX8_howManyUnpaired (mWs yX8_howManyUnpaired cX8_howManyUnpaired 3 (some .int)) ({ frames := 5, cells := 0, slots := 0, locals := 113 }) (va_Pc [.ref (g.2.1 a0)] (mB g K n I0 J0 R0)) (mQ g K n (some (.int out.1)) out.2.1 out.2.2 R0) 0 0 (mA g n) := by
  unfold f_X8_howManyUnpaired at hf
  refine mStart RX8 hJ hO (by decide) rfl (Nat.le_of_ble_eq_true rfl) ?_
  intro p e s m below meth c ls Qm hQm B hr hlk hw hl
  have hx := B.1.1
  have hb := B.1.2.1
  have hl : lv_has ls 3 [(0, .ref (g.2.1 a0))] := hl
  have L14 : ∀ (N : Nat) (v0 : Nat) (v1 : Int32) (v2 : Int32) (I : mI) (J : mJ) (z : Int32) (H : Heap) (locs : List Loc) (ls : Array Slot), f_X8_howManyUnpaired_L14 K v0 I J R0 N v1 v2 = some z → mHp g K n s I J R0 H locs → lv_has ls 3 [(0, .ref (g.2.1 v0)), (1, .int v1), (2, .int v2)] → (∀ (H : Heap) (locs : List Loc) (ls : Array Slot), mHp g K n s I J R0 H locs → lv_has ls 3 [(1, .int z)] → W p l e ({ frames := 5, cells := 0, slots := 0, locals := 113 } : Room) s m ([.ref (g.2.1 a0)] : List Value).toArray below meth c H locs 0 0 Qm (F0 m 42 ls [])) → W p l e ({ frames := 5, cells := 0, slots := 0, locals := 113 } : Room) s m ([.ref (g.2.1 a0)] : List Value).toArray below meth c H locs 0 0 Qm (F0 m 14 ls []) := by
    intro N
    induction N with
    | zero =>
      intro v0 v1 v2 I J z H locs ls hf hw hl kx
      rw [f_X8_howManyUnpaired_L14] at hf
      cases hf
    | succ N ih =>
      intro v0 v1 v2 I J z H locs ls hf hw hl kx
      rw [f_X8_howManyUnpaired_L14] at hf
      refine lv_iload_n hx hb dX8_howManyUnpaired_14 rfl (lv_at hl 2 rfl) ?_
      refine lv_bipush (v := (12 : Int32)) hx hb dX8_howManyUnpaired_15 (by decide) ?_
      refine lv_icmp_ge (tgt := 42) hx hb dX8_howManyUnpaired_17 (by decide) (fun c1 => ?_) (fun c1 => ?_)
      · replace hf := mT1 c1 hf
        obtain rfl := Option.some.inj hf
        exact kx _ _ _ hw (lv_sub hl [1] rfl)
      · replace hf := mF1 c1 hf
        refine lv_aload_n hx hb dX8_howManyUnpaired_20 rfl (lv_at hl 0 rfl) ?_
        obtain ⟨h2, hf⟩ := mChk hf
        obtain ⟨x3, e4, hf⟩ := mBind hf
        refine mgr B hw flX8_33 rfl h2 e4 dX8_howManyUnpaired_21 ?_
        obtain ⟨h5, hf⟩ := mChk hf
        obtain ⟨x6, e7, hf⟩ := mBind hf
        refine mgr B hw flX8_177 rfl h5 e7 dX8_howManyUnpaired_24 ?_
        refine lv_iload_n hx hb dX8_howManyUnpaired_27 rfl (lv_at hl 2 rfl) ?_
        obtain ⟨h8, hf⟩ := mChk hf
        refine mld1 B hw h8 dX8_howManyUnpaired_28 ?_
        refine lv_iconst (v := (-1 : Int32)) hx hb dX8_howManyUnpaired_29 (by decide) ?_
        refine lv_icmp_eq (tgt := 36) hx hb dX8_howManyUnpaired_30 (by decide) (fun c9 => ?_) (fun c9 => ?_)
        · replace hf := mT1 c9 hf
          refine lv_iinc (v := (v2 + (1 : Int32))) (lv' := [(2, .int (v2 + (1 : Int32))), (0, .ref (g.2.1 v0)), (1, .int v1)]) hx hb dX8_howManyUnpaired_36 hl (k := 2) rfl rfl (by decide) rfl (fun ls hl => ?_)
          refine lv_goto (tgt := 14) hx hb dX8_howManyUnpaired_39 (by decide) ?_
          exact ih v0 v1 (v2 + (1 : Int32)) I J z _ _ _ hf hw (lv_sub hl [1, 2, 0] rfl) kx
        · replace hf := mF1 c9 hf
          refine lv_iinc (v := (v1 + (-1 : Int32))) (lv' := [(1, .int (v1 + (-1 : Int32))), (0, .ref (g.2.1 v0)), (2, .int v2)]) hx hb dX8_howManyUnpaired_33 hl (k := 1) rfl rfl (by decide) rfl (fun ls hl => ?_)
          refine lv_iinc (v := (v2 + (1 : Int32))) (lv' := [(2, .int (v2 + (1 : Int32))), (1, .int (v1 + (-1 : Int32))), (0, .ref (g.2.1 v0))]) hx hb dX8_howManyUnpaired_36 hl (k := 2) rfl rfl (by decide) rfl (fun ls hl => ?_)
          refine lv_goto (tgt := 14) hx hb dX8_howManyUnpaired_39 (by decide) ?_
          exact ih v0 (v1 + (-1 : Int32)) (v2 + (1 : Int32)) I J z _ _ _ hf hw (lv_sub hl [2, 1, 0] rfl) kx
  refine lv_aload_n hx hb dX8_howManyUnpaired_0 rfl (lv_at hl 0 rfl) ?_
  obtain ⟨h10, hf⟩ := mChk hf
  obtain ⟨z11, e12, hf⟩ := mBind hf
  refine mcallV (rest := []) (ci := 8) B hw [] clX8_171 rfl h10 (r_X8_pairUp l g K n hJ hO a0 I0 J0 R0 z11 e12) ⟨rfl, rfl, Nat.le_of_ble_eq_true rfl, Nat.le_of_ble_eq_true rfl⟩ rfl hl.1 (Nat.le_of_ble_eq_true rfl) ⟨Nat.zero_le _, Nat.zero_le _⟩ dX8_howManyUnpaired_1 (fun H locs hw => ?_)
  refine W.eq (g2 := F0 m 4 ls []) rfl ?_
  refine lv_aload_n hx hb dX8_howManyUnpaired_4 rfl (lv_at hl 0 rfl) ?_
  obtain ⟨x13, e14, hf⟩ := mBind hf
  refine mgr B hw flX8_10 rfl h10 e14 dX8_howManyUnpaired_5 ?_
  obtain ⟨h15, hf⟩ := mChk hf
  refine mgi B hw flX8_223 rfl h15 dX8_howManyUnpaired_8 ?_
  refine lv_istore_n (lv' := [(1, .int (z11.1 x13 1)), (0, .ref (g.2.1 a0))]) hx hb dX8_howManyUnpaired_11 rfl hl (by decide) rfl (fun ls hl => ?_)
  refine lv_iconst (v := (0 : Int32)) hx hb dX8_howManyUnpaired_12 (by decide) ?_
  refine lv_istore_n (lv' := [(2, .int (0 : Int32)), (1, .int (z11.1 x13 1)), (0, .ref (g.2.1 a0))]) hx hb dX8_howManyUnpaired_13 rfl hl (by decide) rfl (fun ls hl => ?_)
  obtain ⟨z16, e17, hf⟩ := mBind hf
  refine L14 8192 a0 (z11.1 x13 1) (0 : Int32) z11.1 z11.2 z16 _ _ _ e17 hw (lv_sub hl [2, 1, 0] rfl) (fun H locs ls hw hl => ?_)
  refine lv_iload_n hx hb dX8_howManyUnpaired_42 rfl (lv_at hl 0 rfl) ?_
  rw [hQm, ← Option.some.inj hf]
  exact mri hx hb hr hlk hw dX8_howManyUnpaired_43
def f_X8_count (K : mK) (a0 : Nat) (a1 : Int32) (I0 : mI) (J0 : mJ) (R0 : mR) : Option (Int32 × mI × mJ) :=
  if a1 = (0 : Int32) then
  if K a0 = (0, 8) then
  (R0 a0 0).bind fun x2 =>
  if K x2 = (0, 2) then
  some ((I0 x2 1), I0, J0)
  else none
  else none
  else if a1 = (1 : Int32) then
  if K a0 = (0, 8) then
  (R0 a0 1).bind fun x6 =>
  if K x6 = (0, 0) then
  (R0 x6 0).bind fun x9 =>
  if K x9 = (0, 2) then
  some ((I0 x9 1), I0, J0)
  else none
  else none
  else none
  else if a1 = (2 : Int32) then
  if K a0 = (0, 8) then
  (R0 a0 1).bind fun x13 =>
  if K x13 = (0, 0) then
  (f_X0_howMany K x13 I0 J0 R0).bind fun z16 =>
  some (z16, I0, J0)
  else none
  else none
  else if a1 = (3 : Int32) then
  if K a0 = (0, 8) then
  (R0 a0 1).bind fun x19 =>
  if K x19 = (0, 0) then
  (f_X0_howManyNamed K x19 I0 J0 R0).bind fun z22 =>
  some (z22, I0, J0)
  else none
  else none
  else if a1 = (4 : Int32) then
  if K a0 = (0, 8) then
  (R0 a0 2).bind fun x25 =>
  if K x25 = (0, 6) then
  some ((I0 x25 2), I0, J0)
  else none
  else none
  else if a1 = (5 : Int32) then
  if K a0 = (0, 8) then
  (f_X8_howManyInDoubt K a0 I0 J0 R0).bind fun z29 =>
  some (z29.1, z29.2, J0)
  else none
  else if a1 = (6 : Int32) then
  if K a0 = (0, 8) then
  (f_X8_howManyUnpaired K a0 I0 J0 R0).bind fun z32 =>
  some (z32.1, z32.2.1, z32.2.2)
  else none
  else if a1 = (7 : Int32) then
  if K a0 = (0, 8) then
  (R0 a0 4).bind fun x35 =>
  if K x35 = (0, 7) then
  some ((I0 x35 1), I0, J0)
  else none
  else none
  else if a1 = (8 : Int32) then
  if K a0 = (0, 8) then
  (R0 a0 8).bind fun x39 =>
  if K x39 = (0, 3) then
  (R0 x39 3).bind fun x42 =>
  if mIx K x42 1 (1 : Int32) then
  some ((I0 x42 ((1 : Int32)).toNatClampNeg), I0, J0)
  else none
  else none
  else none
  else if a1 = (9 : Int32) then
  if K a0 = (0, 8) then
  (R0 a0 8).bind fun x46 =>
  if K x46 = (0, 3) then
  (R0 x46 3).bind fun x49 =>
  if mIx K x49 1 (2 : Int32) then
  some ((I0 x49 ((2 : Int32)).toNatClampNeg), I0, J0)
  else none
  else none
  else none
  else if a1 = (10 : Int32) then
  if K a0 = (0, 8) then
  (R0 a0 8).bind fun x53 =>
  if K x53 = (0, 3) then
  (R0 x53 3).bind fun x56 =>
  if mIx K x56 1 (3 : Int32) then
  some ((I0 x56 ((3 : Int32)).toNatClampNeg), I0, J0)
  else none
  else none
  else none
  else some ((-1 : Int32), I0, J0)
set_option maxHeartbeats 4000000 in
set_option maxRecDepth 100000 in
theorem r_X8_count (l : Launch) (g : mG) (K : mK) (n : Nat) (hJ : mInj g n) (hO : mOk K n) (a0 : Nat) (a1 : Int32) (I0 : mI) (J0 : mJ) (R0 : mR) (out : (Int32 × mI × mJ)) (hf : f_X8_count K a0 a1 I0 J0 R0 = some out) : Met l yX8_count (mWs yX8_count cX8_count 2 (some .int)) ({ frames := 6, cells := 0, slots := 0, locals := 135 }) (va_Pc [.ref (g.2.1 a0), .int a1] (mB g K n I0 J0 R0)) (mQ g K n (some (.int out.1)) out.2.1 out.2.2 R0) 0 0 (mA g n) := by
  unfold f_X8_count at hf
  refine mStart RX8 hJ hO (by decide) rfl (Nat.le_of_ble_eq_true rfl) ?_
  intro p e s m below meth c ls Qm hQm B hr hlk hw hl
  have hx := B.1.1
  have hb := B.1.2.1
  have hl : lv_has ls 2 [(0, .ref (g.2.1 a0)), (1, .int a1)] := hl
  refine lv_iload_n hx hb dX8_count_0 rfl (lv_at hl 1 rfl) ?_
  by_cases k0 : a1 = (0 : Int32)
  · replace hf := mT1 k0 hf
    refine lv_tableIn (off := 59) (tgt := 60) hx hb dX8_count_1 (by rw [k0]; decide) (by rw [k0]; decide) (by rw [k0]; rfl) (by decide) ?_
    refine lv_aload_n hx hb dX8_count_60 rfl (lv_at hl 0 rfl) ?_
    obtain ⟨h1, hf⟩ := mChk hf
    obtain ⟨x2, e3, hf⟩ := mBind hf
    refine mgr B hw flX8_10 rfl h1 e3 dX8_count_61 ?_
    obtain ⟨h4, hf⟩ := mChk hf
    refine mgi B hw flX8_223 rfl h4 dX8_count_64 ?_
    rw [hQm, ← Option.some.inj hf]
    exact mri hx hb hr hlk hw dX8_count_67
  replace hf := mF1 k0 hf
  by_cases k1 : a1 = (1 : Int32)
  · replace hf := mT1 k1 hf
    refine lv_tableIn (off := 67) (tgt := 68) hx hb dX8_count_1 (by rw [k1]; decide) (by rw [k1]; decide) (by rw [k1]; rfl) (by decide) ?_
    refine lv_aload_n hx hb dX8_count_68 rfl (lv_at hl 0 rfl) ?_
    obtain ⟨h5, hf⟩ := mChk hf
    obtain ⟨x6, e7, hf⟩ := mBind hf
    refine mgr B hw flX8_19 rfl h5 e7 dX8_count_69 ?_
    obtain ⟨h8, hf⟩ := mChk hf
    obtain ⟨x9, e10, hf⟩ := mBind hf
    refine mgr B hw flX8_75 rfl h8 e10 dX8_count_72 ?_
    obtain ⟨h11, hf⟩ := mChk hf
    refine mgi B hw flX8_223 rfl h11 dX8_count_75 ?_
    rw [hQm, ← Option.some.inj hf]
    exact mri hx hb hr hlk hw dX8_count_78
  replace hf := mF1 k1 hf
  by_cases k2 : a1 = (2 : Int32)
  · replace hf := mT1 k2 hf
    refine lv_tableIn (off := 78) (tgt := 79) hx hb dX8_count_1 (by rw [k2]; decide) (by rw [k2]; decide) (by rw [k2]; rfl) (by decide) ?_
    refine lv_aload_n hx hb dX8_count_79 rfl (lv_at hl 0 rfl) ?_
    obtain ⟨h12, hf⟩ := mChk hf
    obtain ⟨x13, e14, hf⟩ := mBind hf
    refine mgr B hw flX8_19 rfl h12 e14 dX8_count_80 ?_
    obtain ⟨h15, hf⟩ := mChk hf
    obtain ⟨z16, e17, hf⟩ := mBind hf
    refine mcallV (rest := []) (ci := 0) B hw [] clX8_226 rfl h15 (r_X0_howMany l g K n hJ hO x13 I0 J0 R0 z16 e17) ⟨rfl, rfl, Nat.le_of_ble_eq_true rfl, Nat.le_of_ble_eq_true rfl⟩ rfl hl.1 (Nat.le_of_ble_eq_true rfl) ⟨Nat.zero_le _, Nat.zero_le _⟩ dX8_count_83 (fun H locs hw => ?_)
    refine W.eq (g2 := F0 m 86 ls [.int z16]) rfl ?_
    rw [hQm, ← Option.some.inj hf]
    exact mri hx hb hr hlk hw dX8_count_86
  replace hf := mF1 k2 hf
  by_cases k3 : a1 = (3 : Int32)
  · replace hf := mT1 k3 hf
    refine lv_tableIn (off := 86) (tgt := 87) hx hb dX8_count_1 (by rw [k3]; decide) (by rw [k3]; decide) (by rw [k3]; rfl) (by decide) ?_
    refine lv_aload_n hx hb dX8_count_87 rfl (lv_at hl 0 rfl) ?_
    obtain ⟨h18, hf⟩ := mChk hf
    obtain ⟨x19, e20, hf⟩ := mBind hf
    refine mgr B hw flX8_19 rfl h18 e20 dX8_count_88 ?_
    obtain ⟨h21, hf⟩ := mChk hf
    obtain ⟨z22, e23, hf⟩ := mBind hf
    refine mcallV (rest := []) (ci := 0) B hw [] clX8_229 rfl h21 (r_X0_howManyNamed l g K n hJ hO x19 I0 J0 R0 z22 e23) ⟨rfl, rfl, Nat.le_of_ble_eq_true rfl, Nat.le_of_ble_eq_true rfl⟩ rfl hl.1 (Nat.le_of_ble_eq_true rfl) ⟨Nat.zero_le _, Nat.zero_le _⟩ dX8_count_91 (fun H locs hw => ?_)
    refine W.eq (g2 := F0 m 94 ls [.int z22]) rfl ?_
    rw [hQm, ← Option.some.inj hf]
    exact mri hx hb hr hlk hw dX8_count_94
  replace hf := mF1 k3 hf
  by_cases k4 : a1 = (4 : Int32)
  · replace hf := mT1 k4 hf
    refine lv_tableIn (off := 94) (tgt := 95) hx hb dX8_count_1 (by rw [k4]; decide) (by rw [k4]; decide) (by rw [k4]; rfl) (by decide) ?_
    refine lv_aload_n hx hb dX8_count_95 rfl (lv_at hl 0 rfl) ?_
    obtain ⟨h24, hf⟩ := mChk hf
    obtain ⟨x25, e26, hf⟩ := mBind hf
    refine mgr B hw flX8_26 rfl h24 e26 dX8_count_96 ?_
    obtain ⟨h27, hf⟩ := mChk hf
    refine mgi B hw flX8_232 rfl h27 dX8_count_99 ?_
    rw [hQm, ← Option.some.inj hf]
    exact mri hx hb hr hlk hw dX8_count_102
  replace hf := mF1 k4 hf
  by_cases k5 : a1 = (5 : Int32)
  · replace hf := mT1 k5 hf
    refine lv_tableIn (off := 102) (tgt := 103) hx hb dX8_count_1 (by rw [k5]; decide) (by rw [k5]; decide) (by rw [k5]; rfl) (by decide) ?_
    refine lv_aload_n hx hb dX8_count_103 rfl (lv_at hl 0 rfl) ?_
    obtain ⟨h28, hf⟩ := mChk hf
    obtain ⟨z29, e30, hf⟩ := mBind hf
    refine mcallV (rest := []) (ci := 8) B hw [] clX8_233 rfl h28 (r_X8_howManyInDoubt l g K n hJ hO a0 I0 J0 R0 z29 e30) ⟨rfl, rfl, Nat.le_of_ble_eq_true rfl, Nat.le_of_ble_eq_true rfl⟩ rfl hl.1 (Nat.le_of_ble_eq_true rfl) ⟨Nat.zero_le _, Nat.zero_le _⟩ dX8_count_104 (fun H locs hw => ?_)
    refine W.eq (g2 := F0 m 107 ls [.int z29.1]) rfl ?_
    rw [hQm, ← Option.some.inj hf]
    exact mri hx hb hr hlk hw dX8_count_107
  replace hf := mF1 k5 hf
  by_cases k6 : a1 = (6 : Int32)
  · replace hf := mT1 k6 hf
    refine lv_tableIn (off := 107) (tgt := 108) hx hb dX8_count_1 (by rw [k6]; decide) (by rw [k6]; decide) (by rw [k6]; rfl) (by decide) ?_
    refine lv_aload_n hx hb dX8_count_108 rfl (lv_at hl 0 rfl) ?_
    obtain ⟨h31, hf⟩ := mChk hf
    obtain ⟨z32, e33, hf⟩ := mBind hf
    refine mcallV (rest := []) (ci := 8) B hw [] clX8_236 rfl h31 (r_X8_howManyUnpaired l g K n hJ hO a0 I0 J0 R0 z32 e33) ⟨rfl, rfl, Nat.le_of_ble_eq_true rfl, Nat.le_of_ble_eq_true rfl⟩ rfl hl.1 (Nat.le_of_ble_eq_true rfl) ⟨Nat.zero_le _, Nat.zero_le _⟩ dX8_count_109 (fun H locs hw => ?_)
    refine W.eq (g2 := F0 m 112 ls [.int z32.1]) rfl ?_
    rw [hQm, ← Option.some.inj hf]
    exact mri hx hb hr hlk hw dX8_count_112
  replace hf := mF1 k6 hf
  by_cases k7 : a1 = (7 : Int32)
  · replace hf := mT1 k7 hf
    refine lv_tableIn (off := 112) (tgt := 113) hx hb dX8_count_1 (by rw [k7]; decide) (by rw [k7]; decide) (by rw [k7]; rfl) (by decide) ?_
    refine lv_aload_n hx hb dX8_count_113 rfl (lv_at hl 0 rfl) ?_
    obtain ⟨h34, hf⟩ := mChk hf
    obtain ⟨x35, e36, hf⟩ := mBind hf
    refine mgr B hw flX8_40 rfl h34 e36 dX8_count_114 ?_
    obtain ⟨h37, hf⟩ := mChk hf
    refine mgi B hw flX8_209 rfl h37 dX8_count_117 ?_
    rw [hQm, ← Option.some.inj hf]
    exact mri hx hb hr hlk hw dX8_count_120
  replace hf := mF1 k7 hf
  by_cases k8 : a1 = (8 : Int32)
  · replace hf := mT1 k8 hf
    refine lv_tableIn (off := 120) (tgt := 121) hx hb dX8_count_1 (by rw [k8]; decide) (by rw [k8]; decide) (by rw [k8]; rfl) (by decide) ?_
    refine lv_aload_n hx hb dX8_count_121 rfl (lv_at hl 0 rfl) ?_
    obtain ⟨h38, hf⟩ := mChk hf
    obtain ⟨x39, e40, hf⟩ := mBind hf
    refine mgr B hw flX8_64 rfl h38 e40 dX8_count_122 ?_
    obtain ⟨h41, hf⟩ := mChk hf
    obtain ⟨x42, e43, hf⟩ := mBind hf
    refine mgr B hw flX8_196 rfl h41 e43 dX8_count_125 ?_
    refine lv_iconst (v := (1 : Int32)) hx hb dX8_count_128 (by decide) ?_
    obtain ⟨h44, hf⟩ := mChk hf
    refine mld1 B hw h44 dX8_count_129 ?_
    rw [hQm, ← Option.some.inj hf]
    exact mri hx hb hr hlk hw dX8_count_130
  replace hf := mF1 k8 hf
  by_cases k9 : a1 = (9 : Int32)
  · replace hf := mT1 k9 hf
    refine lv_tableIn (off := 130) (tgt := 131) hx hb dX8_count_1 (by rw [k9]; decide) (by rw [k9]; decide) (by rw [k9]; rfl) (by decide) ?_
    refine lv_aload_n hx hb dX8_count_131 rfl (lv_at hl 0 rfl) ?_
    obtain ⟨h45, hf⟩ := mChk hf
    obtain ⟨x46, e47, hf⟩ := mBind hf
    refine mgr B hw flX8_64 rfl h45 e47 dX8_count_132 ?_
    obtain ⟨h48, hf⟩ := mChk hf
    obtain ⟨x49, e50, hf⟩ := mBind hf
    refine mgr B hw flX8_196 rfl h48 e50 dX8_count_135 ?_
    refine lv_iconst (v := (2 : Int32)) hx hb dX8_count_138 (by decide) ?_
    obtain ⟨h51, hf⟩ := mChk hf
    refine mld1 B hw h51 dX8_count_139 ?_
    rw [hQm, ← Option.some.inj hf]
    exact mri hx hb hr hlk hw dX8_count_140
  replace hf := mF1 k9 hf
  by_cases k10 : a1 = (10 : Int32)
  · replace hf := mT1 k10 hf
    refine lv_tableIn (off := 140) (tgt := 141) hx hb dX8_count_1 (by rw [k10]; decide) (by rw [k10]; decide) (by rw [k10]; rfl) (by decide) ?_
    refine lv_aload_n hx hb dX8_count_141 rfl (lv_at hl 0 rfl) ?_
    obtain ⟨h52, hf⟩ := mChk hf
    obtain ⟨x53, e54, hf⟩ := mBind hf
    refine mgr B hw flX8_64 rfl h52 e54 dX8_count_142 ?_
    obtain ⟨h55, hf⟩ := mChk hf
    obtain ⟨x56, e57, hf⟩ := mBind hf
    refine mgr B hw flX8_196 rfl h55 e57 dX8_count_145 ?_
    refine lv_iconst (v := (3 : Int32)) hx hb dX8_count_148 (by decide) ?_
    obtain ⟨h58, hf⟩ := mChk hf
    refine mld1 B hw h58 dX8_count_149 ?_
    rw [hQm, ← Option.some.inj hf]
    exact mri hx hb hr hlk hw dX8_count_150
  replace hf := mF1 k10 hf
  refine lv_tableOut (tgt := 151) hx hb dX8_count_1 (mSwOut 10 (by decide) (fun k hk => by
    match k, hk with
    | 0, _ => exact k0
    | 1, _ => exact k1
    | 2, _ => exact k2
    | 3, _ => exact k3
    | 4, _ => exact k4
    | 5, _ => exact k5
    | 6, _ => exact k6
    | 7, _ => exact k7
    | 8, _ => exact k8
    | 9, _ => exact k9
    | 10, _ => exact k10
    | k + 11, h => exact absurd h (by omega))) (by decide) ?_
  refine lv_iconst (v := (-1 : Int32)) hx hb dX8_count_151 (by decide) ?_
  rw [hQm, ← Option.some.inj hf]
  exact mri hx hb hr hlk hw dX8_count_152
def f_X9_isIn (K : mK) (a0 : Int32) (a1 : Int32) (a2 : Int32) (I0 : mI) (J0 : mJ) (R0 : mR) : Option Bool :=
  if a0 < a1 then
  some false
  else
  if a2 < a0 then
  some false
  else
  some true
set_option maxHeartbeats 4000000 in
set_option maxRecDepth 100000 in
theorem r_X9_isIn (l : Launch) (g : mG) (K : mK) (n : Nat) (hJ : mInj g n) (hO : mOk K n) (a0 : Int32) (a1 : Int32) (a2 : Int32) (I0 : mI) (J0 : mJ) (R0 : mR) (out : Bool) (hf : f_X9_isIn K a0 a1 a2 I0 J0 R0 = some out) : Met l yX9_isIn (mWs yX9_isIn cX9_isIn 3 (some .boolean)) ({ frames := 0, cells := 0, slots := 0, locals := 0 }) (va_Pc [.int a0, .int a1, .int a2] (mB g K n I0 J0 R0)) (mQ g K n (some (.int (mb out))) I0 J0 R0) 0 0 (mA g n) := by
  unfold f_X9_isIn at hf
  refine mStart RX9 hJ hO (by decide) rfl (Nat.le_of_ble_eq_true rfl) ?_
  intro p e s m below meth c ls Qm hQm B hr hlk hw hl
  have hx := B.1.1
  have hb := B.1.2.1
  have hl : lv_has ls 3 [(0, .int a0), (1, .int a1), (2, .int a2)] := hl
  refine lv_iload_n hx hb dX9_isIn_0 rfl (lv_at hl 0 rfl) ?_
  refine lv_iload_n hx hb dX9_isIn_1 rfl (lv_at hl 1 rfl) ?_
  refine lv_icmp_lt (tgt := 14) hx hb dX9_isIn_2 (by decide) (fun c1 => ?_) (fun c1 => ?_)
  · replace hf := mT1 c1 hf
    refine lv_iconst (v := (0 : Int32)) hx hb dX9_isIn_14 (by decide) ?_
    rw [hQm, ← Option.some.inj hf]
    exact mrz (v := false) hx hb hr hlk hw dX9_isIn_15
  · replace hf := mF1 c1 hf
    refine lv_iload_n hx hb dX9_isIn_5 rfl (lv_at hl 0 rfl) ?_
    refine lv_iload_n hx hb dX9_isIn_6 rfl (lv_at hl 2 rfl) ?_
    refine lv_icmp_gt (tgt := 14) hx hb dX9_isIn_7 (by decide) (fun c2 => ?_) (fun c2 => ?_)
    · replace hf := mT1 c2 hf
      refine lv_iconst (v := (0 : Int32)) hx hb dX9_isIn_14 (by decide) ?_
      rw [hQm, ← Option.some.inj hf]
      exact mrz (v := false) hx hb hr hlk hw dX9_isIn_15
    · replace hf := mF1 c2 hf
      refine lv_iconst (v := (1 : Int32)) hx hb dX9_isIn_10 (by decide) ?_
      refine lv_goto (tgt := 15) hx hb dX9_isIn_11 (by decide) ?_
      rw [hQm, ← Option.some.inj hf]
      exact mrz (v := true) hx hb hr hlk hw dX9_isIn_15
def f_X9_one (K : mK) (a0 : Bool) (I0 : mI) (J0 : mJ) (R0 : mR) : Option Int32 :=
  if (mb a0) = 0 then
  some (0 : Int32)
  else
  some (1 : Int32)
set_option maxHeartbeats 4000000 in
set_option maxRecDepth 100000 in
theorem r_X9_one (l : Launch) (g : mG) (K : mK) (n : Nat) (hJ : mInj g n) (hO : mOk K n) (a0 : Bool) (I0 : mI) (J0 : mJ) (R0 : mR) (out : Int32) (hf : f_X9_one K a0 I0 J0 R0 = some out) : Met l yX9_one (mWs yX9_one cX9_one 1 (some .int)) ({ frames := 0, cells := 0, slots := 0, locals := 0 }) (va_Pc [.int (mb a0)] (mB g K n I0 J0 R0)) (mQ g K n (some (.int out)) I0 J0 R0) 0 0 (mA g n) := by
  unfold f_X9_one at hf
  refine mStart RX9 hJ hO (by decide) rfl (Nat.le_of_ble_eq_true rfl) ?_
  intro p e s m below meth c ls Qm hQm B hr hlk hw hl
  have hx := B.1.1
  have hb := B.1.2.1
  have hl : lv_has ls 1 [(0, .int (mb a0))] := hl
  refine lv_iload_n hx hb dX9_one_0 rfl (lv_at hl 0 rfl) ?_
  refine lv_if_eq (tgt := 8) hx hb dX9_one_1 (by decide) (fun c1 => ?_) (fun c1 => ?_)
  · replace hf := mT1 c1 hf
    refine lv_iconst (v := (0 : Int32)) hx hb dX9_one_8 (by decide) ?_
    rw [hQm, ← Option.some.inj hf]
    exact mri hx hb hr hlk hw dX9_one_9
  · replace hf := mF1 c1 hf
    refine lv_iconst (v := (1 : Int32)) hx hb dX9_one_4 (by decide) ?_
    refine lv_goto (tgt := 9) hx hb dX9_one_5 (by decide) ?_
    rw [hQm, ← Option.some.inj hf]
    exact mri hx hb hr hlk hw dX9_one_9
def f_X9_isFile (K : mK) (a0 : Nat) (a1 : Int32) (a2 : Int32) (I0 : mI) (J0 : mJ) (R0 : mR) : Option Bool :=
  (f_X9_isIn K a1 (0 : Int32) (1 : Int32) I0 J0 R0).bind fun z1 =>
  if (mb z1) = 0 then
  some false
  else
  if K a0 = (0, 9) then
  (R0 a0 0).bind fun x5 =>
  if mIx K x5 1 a1 then
  (f_X9_isIn K a2 (0 : Int32) ((I0 x5 (a1).toNatClampNeg) - (1 : Int32)) I0 J0 R0).bind fun z8 =>
  if (mb z8) = 0 then
  some false
  else
  some true
  else none
  else none
set_option maxHeartbeats 4000000 in
set_option maxRecDepth 100000 in
theorem r_X9_isFile (l : Launch) (g : mG) (K : mK) (n : Nat) (hJ : mInj g n) (hO : mOk K n) (a0 : Nat) (a1 : Int32) (a2 : Int32) (I0 : mI) (J0 : mJ) (R0 : mR) (out : Bool) (hf : f_X9_isFile K a0 a1 a2 I0 J0 R0 = some out) : Met l yX9_isFile (mWs yX9_isFile cX9_isFile 3 (some .boolean)) ({ frames := 1, cells := 0, slots := 0, locals := 22 }) (va_Pc [.ref (g.2.1 a0), .int a1, .int a2] (mB g K n I0 J0 R0)) (mQ g K n (some (.int (mb out))) I0 J0 R0) 0 0 (mA g n) := by
  unfold f_X9_isFile at hf
  refine mStart RX9 hJ hO (by decide) rfl (Nat.le_of_ble_eq_true rfl) ?_
  intro p e s m below meth c ls Qm hQm B hr hlk hw hl
  have hx := B.1.1
  have hb := B.1.2.1
  have hl : lv_has ls 3 [(0, .ref (g.2.1 a0)), (1, .int a1), (2, .int a2)] := hl
  refine lv_iload_n hx hb dX9_isFile_0 rfl (lv_at hl 1 rfl) ?_
  refine lv_iconst (v := (0 : Int32)) hx hb dX9_isFile_1 (by decide) ?_
  refine lv_iconst (v := (1 : Int32)) hx hb dX9_isFile_2 (by decide) ?_
  obtain ⟨z1, e2, hf⟩ := mBind hf
  refine mcallS (rest := []) B hw [.int a1, .int (0 : Int32), .int (1 : Int32)] clX9_64 (r_X9_isIn l g K n hJ hO a1 (0 : Int32) (1 : Int32) I0 J0 R0 z1 e2) ⟨rfl, rfl, Nat.le_of_ble_eq_true rfl, Nat.le_of_ble_eq_true rfl⟩ rfl hl.1 (Nat.le_of_ble_eq_true rfl) ⟨Nat.zero_le _, Nat.zero_le _⟩ dX9_isFile_3 (fun H locs hw => ?_)
  refine W.eq (g2 := F0 m 6 ls [.int (mb z1)]) rfl ?_
  refine lv_if_eq (tgt := 29) hx hb dX9_isFile_6 (by decide) (fun c3 => ?_) (fun c3 => ?_)
  · replace hf := mT1 c3 hf
    refine lv_iconst (v := (0 : Int32)) hx hb dX9_isFile_29 (by decide) ?_
    rw [hQm, ← Option.some.inj hf]
    exact mrz (v := false) hx hb hr hlk hw dX9_isFile_30
  · replace hf := mF1 c3 hf
    refine lv_iload_n hx hb dX9_isFile_9 rfl (lv_at hl 2 rfl) ?_
    refine lv_iconst (v := (0 : Int32)) hx hb dX9_isFile_10 (by decide) ?_
    refine lv_aload_n hx hb dX9_isFile_11 rfl (lv_at hl 0 rfl) ?_
    obtain ⟨h4, hf⟩ := mChk hf
    obtain ⟨x5, e6, hf⟩ := mBind hf
    refine mgr B hw flX9_7 rfl h4 e6 dX9_isFile_12 ?_
    refine lv_iload_n hx hb dX9_isFile_15 rfl (lv_at hl 1 rfl) ?_
    obtain ⟨h7, hf⟩ := mChk hf
    refine mld1 B hw h7 dX9_isFile_16 ?_
    refine lv_iconst (v := (1 : Int32)) hx hb dX9_isFile_17 (by decide) ?_
    refine lv_isub hx hb dX9_isFile_18 ?_
    obtain ⟨z8, e9, hf⟩ := mBind hf
    refine mcallS (rest := []) B hw [.int a2, .int (0 : Int32), .int ((I0 x5 (a1).toNatClampNeg) - (1 : Int32))] clX9_64 (r_X9_isIn l g K n hJ hO a2 (0 : Int32) ((I0 x5 (a1).toNatClampNeg) - (1 : Int32)) I0 J0 R0 z8 e9) ⟨rfl, rfl, Nat.le_of_ble_eq_true rfl, Nat.le_of_ble_eq_true rfl⟩ rfl hl.1 (Nat.le_of_ble_eq_true rfl) ⟨Nat.zero_le _, Nat.zero_le _⟩ dX9_isFile_19 (fun H locs hw => ?_)
    refine W.eq (g2 := F0 m 22 ls [.int (mb z8)]) rfl ?_
    refine lv_if_eq (tgt := 29) hx hb dX9_isFile_22 (by decide) (fun c10 => ?_) (fun c10 => ?_)
    · replace hf := mT1 c10 hf
      refine lv_iconst (v := (0 : Int32)) hx hb dX9_isFile_29 (by decide) ?_
      rw [hQm, ← Option.some.inj hf]
      exact mrz (v := false) hx hb hr hlk hw dX9_isFile_30
    · replace hf := mF1 c10 hf
      refine lv_iconst (v := (1 : Int32)) hx hb dX9_isFile_25 (by decide) ?_
      refine lv_goto (tgt := 30) hx hb dX9_isFile_26 (by decide) ?_
      rw [hQm, ← Option.some.inj hf]
      exact mrz (v := true) hx hb hr hlk hw dX9_isFile_30
def f_X9_file (K : mK) (a0 : Nat) (a1 : Int32) (I0 : mI) (J0 : mJ) (R0 : mR) : Option (Int32 × mI) :=
  (f_X9_isIn K a1 (0 : Int32) (1 : Int32) I0 J0 R0).bind fun z1 =>
  if (mb z1) = 0 then
  some ((-1 : Int32), I0)
  else
  if K a0 = (0, 9) then
  (R0 a0 0).bind fun x5 =>
  if mIx K x5 1 a1 then
  if (I0 x5 (a1).toNatClampNeg) = (12 : Int32) then
  some ((-1 : Int32), I0)
  else
  (some (mup I0 x5 (a1).toNatClampNeg ((I0 x5 (a1).toNatClampNeg) + (1 : Int32)))).bind fun I9 =>
  (R0 a0 3).bind fun x11 =>
  if mIx K x11 1 (((12 : Int32) * a1) + (I0 x5 (a1).toNatClampNeg)) then
  (some (mup I9 x11 ((((12 : Int32) * a1) + (I0 x5 (a1).toNatClampNeg))).toNatClampNeg (120 : Int32))).bind fun I14 =>
  if a1 = (1 : Int32) then
  (R0 a0 5).bind fun x17 =>
  if mIx K x17 1 (I0 x5 (a1).toNatClampNeg) then
  (some (mup I14 x17 ((I0 x5 (a1).toNatClampNeg)).toNatClampNeg (I0 x5 (a1).toNatClampNeg))).bind fun I20 =>
  (R0 a0 6).bind fun x22 =>
  if mIx K x22 1 (I0 x5 (a1).toNatClampNeg) then
  (some (mup I20 x22 ((I0 x5 (a1).toNatClampNeg)).toNatClampNeg (-1 : Int32))).bind fun I25 =>
  some ((I0 x5 (a1).toNatClampNeg), I25)
  else none
  else none
  else
  some ((I0 x5 (a1).toNatClampNeg), I14)
  else none
  else none
  else none
set_option maxHeartbeats 4000000 in
set_option maxRecDepth 100000 in
theorem r_X9_file (l : Launch) (g : mG) (K : mK) (n : Nat) (hJ : mInj g n) (hO : mOk K n) (a0 : Nat) (a1 : Int32) (I0 : mI) (J0 : mJ) (R0 : mR) (out : (Int32 × mI)) (hf : f_X9_file K a0 a1 I0 J0 R0 = some out) : Met l yX9_file (mWs yX9_file cX9_file 3 (some .int)) ({ frames := 1, cells := 0, slots := 0, locals := 22 }) (va_Pc [.ref (g.2.1 a0), .int a1] (mB g K n I0 J0 R0)) (mQ g K n (some (.int out.1)) out.2 J0 R0) 0 0 (mA g n) := by
  unfold f_X9_file at hf
  refine mStart RX9 hJ hO (by decide) rfl (Nat.le_of_ble_eq_true rfl) ?_
  intro p e s m below meth c ls Qm hQm B hr hlk hw hl
  have hx := B.1.1
  have hb := B.1.2.1
  have hl : lv_has ls 3 [(0, .ref (g.2.1 a0)), (1, .int a1)] := hl
  refine lv_iload_n hx hb dX9_file_0 rfl (lv_at hl 1 rfl) ?_
  refine lv_iconst (v := (0 : Int32)) hx hb dX9_file_1 (by decide) ?_
  refine lv_iconst (v := (1 : Int32)) hx hb dX9_file_2 (by decide) ?_
  obtain ⟨z1, e2, hf⟩ := mBind hf
  refine mcallS (rest := []) B hw [.int a1, .int (0 : Int32), .int (1 : Int32)] clX9_64 (r_X9_isIn l g K n hJ hO a1 (0 : Int32) (1 : Int32) I0 J0 R0 z1 e2) ⟨rfl, rfl, Nat.le_of_ble_eq_true rfl, Nat.le_of_ble_eq_true rfl⟩ rfl hl.1 (Nat.le_of_ble_eq_true rfl) ⟨Nat.zero_le _, Nat.zero_le _⟩ dX9_file_3 (fun H locs hw => ?_)
  refine W.eq (g2 := F0 m 6 ls [.int (mb z1)]) rfl ?_
  refine lv_if_eq (tgt := 20) hx hb dX9_file_6 (by decide) (fun c3 => ?_) (fun c3 => ?_)
  · replace hf := mT1 c3 hf
    refine lv_iconst (v := (-1 : Int32)) hx hb dX9_file_20 (by decide) ?_
    rw [hQm, ← Option.some.inj hf]
    exact mri hx hb hr hlk hw dX9_file_21
  · replace hf := mF1 c3 hf
    refine lv_aload_n hx hb dX9_file_9 rfl (lv_at hl 0 rfl) ?_
    obtain ⟨h4, hf⟩ := mChk hf
    obtain ⟨x5, e6, hf⟩ := mBind hf
    refine mgr B hw flX9_7 rfl h4 e6 dX9_file_10 ?_
    refine lv_iload_n hx hb dX9_file_13 rfl (lv_at hl 1 rfl) ?_
    obtain ⟨h7, hf⟩ := mChk hf
    refine mld1 B hw h7 dX9_file_14 ?_
    refine lv_bipush (v := (12 : Int32)) hx hb dX9_file_15 (by decide) ?_
    refine lv_icmp_ne (tgt := 22) hx hb dX9_file_17 (by decide) (fun c8 => ?_) (fun c8 => ?_)
    · replace hf := mF1 c8 hf
      refine lv_aload_n hx hb dX9_file_22 rfl (lv_at hl 0 rfl) ?_
      refine mgr B hw flX9_7 rfl h4 e6 dX9_file_23 ?_
      refine lv_iload_n hx hb dX9_file_26 rfl (lv_at hl 1 rfl) ?_
      refine mld1 B hw h7 dX9_file_27 ?_
      refine lv_istore_n (lv' := [(2, .int (I0 x5 (a1).toNatClampNeg)), (0, .ref (g.2.1 a0)), (1, .int a1)]) hx hb dX9_file_28 rfl hl (by decide) rfl (fun ls hl => ?_)
      refine lv_aload_n hx hb dX9_file_29 rfl (lv_at hl 1 rfl) ?_
      refine mgr B hw flX9_7 rfl h4 e6 dX9_file_30 ?_
      refine lv_iload_n hx hb dX9_file_33 rfl (lv_at hl 2 rfl) ?_
      refine lv_dup2_11 hx hb dX9_file_34 rfl rfl ?_
      refine mld1 B hw h7 dX9_file_35 ?_
      refine lv_iconst (v := (1 : Int32)) hx hb dX9_file_36 (by decide) ?_
      refine lv_iadd hx hb dX9_file_37 ?_
      obtain ⟨I9, e10, hf⟩ := mLet hf
      refine mst1 B hw h7 dX9_file_38 (fun H locs hw => ?_)
      rw [← e10] at hw
      refine lv_aload_n hx hb dX9_file_39 rfl (lv_at hl 1 rfl) ?_
      obtain ⟨x11, e12, hf⟩ := mBind hf
      refine mgr B hw flX9_19 rfl h4 e12 dX9_file_40 ?_
      refine lv_bipush (v := (12 : Int32)) hx hb dX9_file_43 (by decide) ?_
      refine lv_iload_n hx hb dX9_file_45 rfl (lv_at hl 2 rfl) ?_
      refine lv_imul hx hb dX9_file_46 ?_
      refine lv_iload_n hx hb dX9_file_47 rfl (lv_at hl 0 rfl) ?_
      refine lv_iadd hx hb dX9_file_48 ?_
      refine lv_bipush (v := (120 : Int32)) hx hb dX9_file_49 (by decide) ?_
      obtain ⟨h13, hf⟩ := mChk hf
      obtain ⟨I14, e15, hf⟩ := mLet hf
      refine mst1 B hw h13 dX9_file_51 (fun H locs hw => ?_)
      rw [← e15] at hw
      refine lv_iload_n hx hb dX9_file_52 rfl (lv_at hl 2 rfl) ?_
      refine lv_iconst (v := (1 : Int32)) hx hb dX9_file_53 (by decide) ?_
      refine lv_icmp_ne (tgt := 71) hx hb dX9_file_54 (by decide) (fun c16 => ?_) (fun c16 => ?_)
      · replace hf := mF1 c16 hf
        refine lv_iload_n hx hb dX9_file_71 rfl (lv_at hl 0 rfl) ?_
        rw [hQm, ← Option.some.inj hf]
        exact mri hx hb hr hlk hw dX9_file_72
      · replace hf := mT1 c16 hf
        refine lv_aload_n hx hb dX9_file_57 rfl (lv_at hl 1 rfl) ?_
        obtain ⟨x17, e18, hf⟩ := mBind hf
        refine mgr B hw flX9_25 rfl h4 e18 dX9_file_58 ?_
        refine lv_iload_n hx hb dX9_file_61 rfl (lv_at hl 0 rfl) ?_
        refine lv_iload_n hx hb dX9_file_62 rfl (lv_at hl 0 rfl) ?_
        obtain ⟨h19, hf⟩ := mChk hf
        obtain ⟨I20, e21, hf⟩ := mLet hf
        refine mst1 B hw h19 dX9_file_63 (fun H locs hw => ?_)
        rw [← e21] at hw
        refine lv_aload_n hx hb dX9_file_64 rfl (lv_at hl 1 rfl) ?_
        obtain ⟨x22, e23, hf⟩ := mBind hf
        refine mgr B hw flX9_28 rfl h4 e23 dX9_file_65 ?_
        refine lv_iload_n hx hb dX9_file_68 rfl (lv_at hl 0 rfl) ?_
        refine lv_iconst (v := (-1 : Int32)) hx hb dX9_file_69 (by decide) ?_
        obtain ⟨h24, hf⟩ := mChk hf
        obtain ⟨I25, e26, hf⟩ := mLet hf
        refine mst1 B hw h24 dX9_file_70 (fun H locs hw => ?_)
        rw [← e26] at hw
        refine lv_iload_n hx hb dX9_file_71 rfl (lv_at hl 0 rfl) ?_
        rw [hQm, ← Option.some.inj hf]
        exact mri hx hb hr hlk hw dX9_file_72
    · replace hf := mT1 c8 hf
      refine lv_iconst (v := (-1 : Int32)) hx hb dX9_file_20 (by decide) ?_
      rw [hQm, ← Option.some.inj hf]
      exact mri hx hb hr hlk hw dX9_file_21
def f_X9_mends (K : mK) (a0 : Nat) (a1 : Int32) (a2 : Int32) (a3 : Int32) (a4 : Int32) (I0 : mI) (J0 : mJ) (R0 : mR) : Option (Bool × mI) :=
  if K a0 = (0, 9) then
  (R0 a0 1).bind fun x2 =>
  if mIx K x2 1 (((19 : Int32) * (((12 : Int32) * a1) + a2)) + a3) then
  (some (mup I0 x2 ((((19 : Int32) * (((12 : Int32) * a1) + a2)) + a3)).toNatClampNeg a4)).bind fun I5 =>
  some (true, I5)
  else none
  else none
set_option maxHeartbeats 4000000 in
set_option maxRecDepth 100000 in
theorem r_X9_mends (l : Launch) (g : mG) (K : mK) (n : Nat) (hJ : mInj g n) (hO : mOk K n) (a0 : Nat) (a1 : Int32) (a2 : Int32) (a3 : Int32) (a4 : Int32) (I0 : mI) (J0 : mJ) (R0 : mR) (out : (Bool × mI)) (hf : f_X9_mends K a0 a1 a2 a3 a4 I0 J0 R0 = some out) : Met l yX9_mends (mWs yX9_mends cX9_mends 5 (some .boolean)) ({ frames := 0, cells := 0, slots := 0, locals := 0 }) (va_Pc [.ref (g.2.1 a0), .int a1, .int a2, .int a3, .int a4] (mB g K n I0 J0 R0)) (mQ g K n (some (.int (mb out.1))) out.2 J0 R0) 0 0 (mA g n) := by
  unfold f_X9_mends at hf
  refine mStart RX9 hJ hO (by decide) rfl (Nat.le_of_ble_eq_true rfl) ?_
  intro p e s m below meth c ls Qm hQm B hr hlk hw hl
  have hx := B.1.1
  have hb := B.1.2.1
  have hl : lv_has ls 5 [(0, .ref (g.2.1 a0)), (1, .int a1), (2, .int a2), (3, .int a3), (4, .int a4)] := hl
  refine lv_aload_n hx hb dX9_mends_0 rfl (lv_at hl 0 rfl) ?_
  obtain ⟨h1, hf⟩ := mChk hf
  obtain ⟨x2, e3, hf⟩ := mBind hf
  refine mgr B hw flX9_13 rfl h1 e3 dX9_mends_1 ?_
  refine lv_bipush (v := (19 : Int32)) hx hb dX9_mends_4 (by decide) ?_
  refine lv_bipush (v := (12 : Int32)) hx hb dX9_mends_6 (by decide) ?_
  refine lv_iload_n hx hb dX9_mends_8 rfl (lv_at hl 1 rfl) ?_
  refine lv_imul hx hb dX9_mends_9 ?_
  refine lv_iload_n hx hb dX9_mends_10 rfl (lv_at hl 2 rfl) ?_
  refine lv_iadd hx hb dX9_mends_11 ?_
  refine lv_imul hx hb dX9_mends_12 ?_
  refine lv_iload_n hx hb dX9_mends_13 rfl (lv_at hl 3 rfl) ?_
  refine lv_iadd hx hb dX9_mends_14 ?_
  refine lv_iload hx hb dX9_mends_15 (lv_at hl 4 rfl) ?_
  obtain ⟨h4, hf⟩ := mChk hf
  obtain ⟨I5, e6, hf⟩ := mLet hf
  refine mst1 B hw h4 dX9_mends_17 (fun H locs hw => ?_)
  rw [← e6] at hw
  refine lv_iconst (v := (1 : Int32)) hx hb dX9_mends_18 (by decide) ?_
  rw [hQm, ← Option.some.inj hf]
  exact mrz (v := true) hx hb hr hlk hw dX9_mends_19
def f_X9_sex (K : mK) (a0 : Nat) (a1 : Int32) (a2 : Int32) (a3 : Int32) (I0 : mI) (J0 : mJ) (R0 : mR) : Option (Bool × mI) :=
  if K a0 = (0, 9) then
  (f_X9_isFile K a0 a1 a2 I0 J0 R0).bind fun z2 =>
  if (mb z2) = 0 then
  some (false, I0)
  else
  (f_X9_isIn K a3 (0 : Int32) (2 : Int32) I0 J0 R0).bind fun z5 =>
  if (mb z5) = 0 then
  some (false, I0)
  else
  (f_X9_mends K a0 a1 a2 (0 : Int32) a3 I0 J0 R0).bind fun z8 =>
  if (mb z8.1) = 0 then
  some (false, z8.2)
  else
  some (true, z8.2)
  else none
set_option maxHeartbeats 4000000 in
set_option maxRecDepth 100000 in
theorem r_X9_sex (l : Launch) (g : mG) (K : mK) (n : Nat) (hJ : mInj g n) (hO : mOk K n) (a0 : Nat) (a1 : Int32) (a2 : Int32) (a3 : Int32) (I0 : mI) (J0 : mJ) (R0 : mR) (out : (Bool × mI)) (hf : f_X9_sex K a0 a1 a2 a3 I0 J0 R0 = some out) : Met l yX9_sex (mWs yX9_sex cX9_sex 4 (some .boolean)) ({ frames := 2, cells := 0, slots := 0, locals := 44 }) (va_Pc [.ref (g.2.1 a0), .int a1, .int a2, .int a3] (mB g K n I0 J0 R0)) (mQ g K n (some (.int (mb out.1))) out.2 J0 R0) 0 0 (mA g n) := by
  unfold f_X9_sex at hf
  refine mStart RX9 hJ hO (by decide) rfl (Nat.le_of_ble_eq_true rfl) ?_
  intro p e s m below meth c ls Qm hQm B hr hlk hw hl
  have hx := B.1.1
  have hb := B.1.2.1
  have hl : lv_has ls 4 [(0, .ref (g.2.1 a0)), (1, .int a1), (2, .int a2), (3, .int a3)] := hl
  refine lv_aload_n hx hb dX9_sex_0 rfl (lv_at hl 0 rfl) ?_
  refine lv_iload_n hx hb dX9_sex_1 rfl (lv_at hl 1 rfl) ?_
  refine lv_iload_n hx hb dX9_sex_2 rfl (lv_at hl 2 rfl) ?_
  obtain ⟨h1, hf⟩ := mChk hf
  obtain ⟨z2, e3, hf⟩ := mBind hf
  refine mcallV (rest := []) (ci := 9) B hw [.int a1, .int a2] clX9_68 rfl h1 (r_X9_isFile l g K n hJ hO a0 a1 a2 I0 J0 R0 z2 e3) ⟨rfl, rfl, Nat.le_of_ble_eq_true rfl, Nat.le_of_ble_eq_true rfl⟩ rfl hl.1 (Nat.le_of_ble_eq_true rfl) ⟨Nat.zero_le _, Nat.zero_le _⟩ dX9_sex_3 (fun H locs hw => ?_)
  refine W.eq (g2 := F0 m 6 ls [.int (mb z2)]) rfl ?_
  refine lv_if_eq (tgt := 33) hx hb dX9_sex_6 (by decide) (fun c4 => ?_) (fun c4 => ?_)
  · replace hf := mT1 c4 hf
    refine lv_iconst (v := (0 : Int32)) hx hb dX9_sex_33 (by decide) ?_
    rw [hQm, ← Option.some.inj hf]
    exact mrz (v := false) hx hb hr hlk hw dX9_sex_34
  · replace hf := mF1 c4 hf
    refine lv_iload_n hx hb dX9_sex_9 rfl (lv_at hl 3 rfl) ?_
    refine lv_iconst (v := (0 : Int32)) hx hb dX9_sex_10 (by decide) ?_
    refine lv_iconst (v := (2 : Int32)) hx hb dX9_sex_11 (by decide) ?_
    obtain ⟨z5, e6, hf⟩ := mBind hf
    refine mcallS (rest := []) B hw [.int a3, .int (0 : Int32), .int (2 : Int32)] clX9_64 (r_X9_isIn l g K n hJ hO a3 (0 : Int32) (2 : Int32) I0 J0 R0 z5 e6) ⟨rfl, rfl, Nat.le_of_ble_eq_true rfl, Nat.le_of_ble_eq_true rfl⟩ rfl hl.1 (Nat.le_of_ble_eq_true rfl) ⟨Nat.zero_le _, Nat.zero_le _⟩ dX9_sex_12 (fun H locs hw => ?_)
    refine W.eq (g2 := F0 m 15 ls [.int (mb z5)]) rfl ?_
    refine lv_if_eq (tgt := 33) hx hb dX9_sex_15 (by decide) (fun c7 => ?_) (fun c7 => ?_)
    · replace hf := mT1 c7 hf
      refine lv_iconst (v := (0 : Int32)) hx hb dX9_sex_33 (by decide) ?_
      rw [hQm, ← Option.some.inj hf]
      exact mrz (v := false) hx hb hr hlk hw dX9_sex_34
    · replace hf := mF1 c7 hf
      refine lv_aload_n hx hb dX9_sex_18 rfl (lv_at hl 0 rfl) ?_
      refine lv_iload_n hx hb dX9_sex_19 rfl (lv_at hl 1 rfl) ?_
      refine lv_iload_n hx hb dX9_sex_20 rfl (lv_at hl 2 rfl) ?_
      refine lv_iconst (v := (0 : Int32)) hx hb dX9_sex_21 (by decide) ?_
      refine lv_iload_n hx hb dX9_sex_22 rfl (lv_at hl 3 rfl) ?_
      obtain ⟨z8, e9, hf⟩ := mBind hf
      refine mcallV (rest := []) (ci := 9) B hw [.int a1, .int a2, .int (0 : Int32), .int a3] clX9_72 rfl h1 (r_X9_mends l g K n hJ hO a0 a1 a2 (0 : Int32) a3 I0 J0 R0 z8 e9) ⟨rfl, rfl, Nat.le_of_ble_eq_true rfl, Nat.le_of_ble_eq_true rfl⟩ rfl hl.1 (Nat.le_of_ble_eq_true rfl) ⟨Nat.zero_le _, Nat.zero_le _⟩ dX9_sex_23 (fun H locs hw => ?_)
      refine W.eq (g2 := F0 m 26 ls [.int (mb z8.1)]) rfl ?_
      refine lv_if_eq (tgt := 33) hx hb dX9_sex_26 (by decide) (fun c10 => ?_) (fun c10 => ?_)
      · replace hf := mT1 c10 hf
        refine lv_iconst (v := (0 : Int32)) hx hb dX9_sex_33 (by decide) ?_
        rw [hQm, ← Option.some.inj hf]
        exact mrz (v := false) hx hb hr hlk hw dX9_sex_34
      · replace hf := mF1 c10 hf
        refine lv_iconst (v := (1 : Int32)) hx hb dX9_sex_29 (by decide) ?_
        refine lv_goto (tgt := 34) hx hb dX9_sex_30 (by decide) ?_
        rw [hQm, ← Option.some.inj hf]
        exact mrz (v := true) hx hb hr hlk hw dX9_sex_34
def f_X9_age (K : mK) (a0 : Nat) (a1 : Int32) (a2 : Int32) (a3 : Int32) (a4 : Int32) (I0 : mI) (J0 : mJ) (R0 : mR) : Option (Bool × mI) :=
  if K a0 = (0, 9) then
  (f_X9_isFile K a0 a1 a2 I0 J0 R0).bind fun z2 =>
  if (mb z2) = 0 then
  some (false, I0)
  else
  if a3 < 0 then
  some (false, I0)
  else
  if a4 < a3 then
  some (false, I0)
  else
  if a4 ≤ (120 : Int32) then
  (R0 a0 2).bind fun x8 =>
  if mIx K x8 1 (((12 : Int32) * a1) + a2) then
  (some (mup I0 x8 ((((12 : Int32) * a1) + a2)).toNatClampNeg a3)).bind fun I11 =>
  (R0 a0 3).bind fun x13 =>
  if mIx K x13 1 (((12 : Int32) * a1) + a2) then
  (some (mup I11 x13 ((((12 : Int32) * a1) + a2)).toNatClampNeg a4)).bind fun I16 =>
  some (true, I16)
  else none
  else none
  else
  some (false, I0)
  else none
set_option maxHeartbeats 4000000 in
set_option maxRecDepth 100000 in
theorem r_X9_age (l : Launch) (g : mG) (K : mK) (n : Nat) (hJ : mInj g n) (hO : mOk K n) (a0 : Nat) (a1 : Int32) (a2 : Int32) (a3 : Int32) (a4 : Int32) (I0 : mI) (J0 : mJ) (R0 : mR) (out : (Bool × mI)) (hf : f_X9_age K a0 a1 a2 a3 a4 I0 J0 R0 = some out) : Met l yX9_age (mWs yX9_age cX9_age 5 (some .boolean)) ({ frames := 2, cells := 0, slots := 0, locals := 44 }) (va_Pc [.ref (g.2.1 a0), .int a1, .int a2, .int a3, .int a4] (mB g K n I0 J0 R0)) (mQ g K n (some (.int (mb out.1))) out.2 J0 R0) 0 0 (mA g n) := by
  unfold f_X9_age at hf
  refine mStart RX9 hJ hO (by decide) rfl (Nat.le_of_ble_eq_true rfl) ?_
  intro p e s m below meth c ls Qm hQm B hr hlk hw hl
  have hx := B.1.1
  have hb := B.1.2.1
  have hl : lv_has ls 5 [(0, .ref (g.2.1 a0)), (1, .int a1), (2, .int a2), (3, .int a3), (4, .int a4)] := hl
  refine lv_aload_n hx hb dX9_age_0 rfl (lv_at hl 0 rfl) ?_
  refine lv_iload_n hx hb dX9_age_1 rfl (lv_at hl 1 rfl) ?_
  refine lv_iload_n hx hb dX9_age_2 rfl (lv_at hl 2 rfl) ?_
  obtain ⟨h1, hf⟩ := mChk hf
  obtain ⟨z2, e3, hf⟩ := mBind hf
  refine mcallV (rest := []) (ci := 9) B hw [.int a1, .int a2] clX9_68 rfl h1 (r_X9_isFile l g K n hJ hO a0 a1 a2 I0 J0 R0 z2 e3) ⟨rfl, rfl, Nat.le_of_ble_eq_true rfl, Nat.le_of_ble_eq_true rfl⟩ rfl hl.1 (Nat.le_of_ble_eq_true rfl) ⟨Nat.zero_le _, Nat.zero_le _⟩ dX9_age_3 (fun H locs hw => ?_)
  refine W.eq (g2 := F0 m 6 ls [.int (mb z2)]) rfl ?_
  refine lv_if_eq (tgt := 26) hx hb dX9_age_6 (by decide) (fun c4 => ?_) (fun c4 => ?_)
  · replace hf := mT1 c4 hf
    refine lv_iconst (v := (0 : Int32)) hx hb dX9_age_26 (by decide) ?_
    rw [hQm, ← Option.some.inj hf]
    exact mrz (v := false) hx hb hr hlk hw dX9_age_27
  · replace hf := mF1 c4 hf
    refine lv_iload_n hx hb dX9_age_9 rfl (lv_at hl 3 rfl) ?_
    refine lv_if_lt (tgt := 26) hx hb dX9_age_10 (by decide) (fun c5 => ?_) (fun c5 => ?_)
    · replace hf := mT1 c5 hf
      refine lv_iconst (v := (0 : Int32)) hx hb dX9_age_26 (by decide) ?_
      rw [hQm, ← Option.some.inj hf]
      exact mrz (v := false) hx hb hr hlk hw dX9_age_27
    · replace hf := mF1 c5 hf
      refine lv_iload_n hx hb dX9_age_13 rfl (lv_at hl 3 rfl) ?_
      refine lv_iload hx hb dX9_age_14 (lv_at hl 4 rfl) ?_
      refine lv_icmp_gt (tgt := 26) hx hb dX9_age_16 (by decide) (fun c6 => ?_) (fun c6 => ?_)
      · replace hf := mT1 c6 hf
        refine lv_iconst (v := (0 : Int32)) hx hb dX9_age_26 (by decide) ?_
        rw [hQm, ← Option.some.inj hf]
        exact mrz (v := false) hx hb hr hlk hw dX9_age_27
      · replace hf := mF1 c6 hf
        refine lv_iload hx hb dX9_age_19 (lv_at hl 4 rfl) ?_
        refine lv_bipush (v := (120 : Int32)) hx hb dX9_age_21 (by decide) ?_
        refine lv_icmp_le (tgt := 28) hx hb dX9_age_23 (by decide) (fun c7 => ?_) (fun c7 => ?_)
        · replace hf := mT1 c7 hf
          refine lv_aload_n hx hb dX9_age_28 rfl (lv_at hl 0 rfl) ?_
          obtain ⟨x8, e9, hf⟩ := mBind hf
          refine mgr B hw flX9_16 rfl h1 e9 dX9_age_29 ?_
          refine lv_bipush (v := (12 : Int32)) hx hb dX9_age_32 (by decide) ?_
          refine lv_iload_n hx hb dX9_age_34 rfl (lv_at hl 1 rfl) ?_
          refine lv_imul hx hb dX9_age_35 ?_
          refine lv_iload_n hx hb dX9_age_36 rfl (lv_at hl 2 rfl) ?_
          refine lv_iadd hx hb dX9_age_37 ?_
          refine lv_iload_n hx hb dX9_age_38 rfl (lv_at hl 3 rfl) ?_
          obtain ⟨h10, hf⟩ := mChk hf
          obtain ⟨I11, e12, hf⟩ := mLet hf
          refine mst1 B hw h10 dX9_age_39 (fun H locs hw => ?_)
          rw [← e12] at hw
          refine lv_aload_n hx hb dX9_age_40 rfl (lv_at hl 0 rfl) ?_
          obtain ⟨x13, e14, hf⟩ := mBind hf
          refine mgr B hw flX9_19 rfl h1 e14 dX9_age_41 ?_
          refine lv_bipush (v := (12 : Int32)) hx hb dX9_age_44 (by decide) ?_
          refine lv_iload_n hx hb dX9_age_46 rfl (lv_at hl 1 rfl) ?_
          refine lv_imul hx hb dX9_age_47 ?_
          refine lv_iload_n hx hb dX9_age_48 rfl (lv_at hl 2 rfl) ?_
          refine lv_iadd hx hb dX9_age_49 ?_
          refine lv_iload hx hb dX9_age_50 (lv_at hl 4 rfl) ?_
          obtain ⟨h15, hf⟩ := mChk hf
          obtain ⟨I16, e17, hf⟩ := mLet hf
          refine mst1 B hw h15 dX9_age_52 (fun H locs hw => ?_)
          rw [← e17] at hw
          refine lv_iconst (v := (1 : Int32)) hx hb dX9_age_53 (by decide) ?_
          rw [hQm, ← Option.some.inj hf]
          exact mrz (v := true) hx hb hr hlk hw dX9_age_54
        · replace hf := mF1 c7 hf
          refine lv_iconst (v := (0 : Int32)) hx hb dX9_age_26 (by decide) ?_
          rw [hQm, ← Option.some.inj hf]
          exact mrz (v := false) hx hb hr hlk hw dX9_age_27
