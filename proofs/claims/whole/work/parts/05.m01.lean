def f_X0_leaderOf (K : mK) (a0 : Nat) (a1 : Int32) (I0 : mI) (J0 : mJ) (R0 : mR) : Option Int32 :=
  if a1 < 0 then
  some (-1 : Int32)
  else
  if K a0 = (0, 0) then
  (R0 a0 0).bind fun x3 =>
  if K x3 = (0, 2) then
  if (I0 x3 1) ≤ a1 then
  some (-1 : Int32)
  else
  (R0 a0 1).bind fun x7 =>
  if mIx K x7 1 a1 then
  some (I0 x7 (a1).toNatClampNeg)
  else none
  else none
  else none
set_option maxHeartbeats 4000000 in
set_option maxRecDepth 100000 in
theorem r_X0_leaderOf (l : Launch) (g : mG) (K : mK) (n : Nat) (hJ : mInj g n) (hO : mOk K n) (a0 : Nat) (a1 : Int32) (I0 : mI) (J0 : mJ) (R0 : mR) (out : Int32) (hf : f_X0_leaderOf K a0 a1 I0 J0 R0 = some out) : Met l yX0_leaderOf (mWs yX0_leaderOf cX0_leaderOf 2 (some .int)) ({ frames := 0, cells := 0, slots := 0, locals := 0 }) (va_Pc [.ref (g.2.1 a0), .int a1] (mB g K n I0 J0 R0)) (mQ g K n (some (.int out)) I0 J0 R0) 0 0 (mA g n) := by
  unfold f_X0_leaderOf at hf
  refine mStart RX0 hJ hO (by decide) rfl (Nat.le_of_ble_eq_true rfl) ?_
  intro p e s m below meth c ls Qm hQm B hr hlk hw hl
  have hx := B.1.1
  have hb := B.1.2.1
  have hl : lv_has ls 2 [(0, .ref (g.2.1 a0)), (1, .int a1)] := hl
  refine lv_iload_n hx hb dX0_leaderOf_0 rfl (lv_at hl 1 rfl) ?_
  refine lv_if_lt (tgt := 24) hx hb dX0_leaderOf_1 (by decide) (fun c1 => ?_) (fun c1 => ?_)
  · replace hf := mT1 c1 hf
    refine lv_iconst (v := (-1 : Int32)) hx hb dX0_leaderOf_24 (by decide) ?_
    rw [hQm, ← Option.some.inj hf]
    exact mri hx hb hr hlk hw dX0_leaderOf_25
  · replace hf := mF1 c1 hf
    refine lv_iload_n hx hb dX0_leaderOf_4 rfl (lv_at hl 1 rfl) ?_
    refine lv_aload_n hx hb dX0_leaderOf_5 rfl (lv_at hl 0 rfl) ?_
    obtain ⟨h2, hf⟩ := mChk hf
    obtain ⟨x3, e4, hf⟩ := mBind hf
    refine mgr B hw flX0_12 rfl h2 e4 dX0_leaderOf_6 ?_
    obtain ⟨h5, hf⟩ := mChk hf
    refine mgi B hw flX0_25 rfl h5 dX0_leaderOf_9 ?_
    refine lv_icmp_ge (tgt := 24) hx hb dX0_leaderOf_12 (by decide) (fun c6 => ?_) (fun c6 => ?_)
    · replace hf := mT1 c6 hf
      refine lv_iconst (v := (-1 : Int32)) hx hb dX0_leaderOf_24 (by decide) ?_
      rw [hQm, ← Option.some.inj hf]
      exact mri hx hb hr hlk hw dX0_leaderOf_25
    · replace hf := mF1 c6 hf
      refine lv_aload_n hx hb dX0_leaderOf_15 rfl (lv_at hl 0 rfl) ?_
      obtain ⟨x7, e8, hf⟩ := mBind hf
      refine mgr B hw flX0_18 rfl h2 e8 dX0_leaderOf_16 ?_
      refine lv_iload_n hx hb dX0_leaderOf_19 rfl (lv_at hl 1 rfl) ?_
      obtain ⟨h9, hf⟩ := mChk hf
      refine mld1 B hw h9 dX0_leaderOf_20 ?_
      refine lv_goto (tgt := 25) hx hb dX0_leaderOf_21 (by decide) ?_
      rw [hQm, ← Option.some.inj hf]
      exact mri hx hb hr hlk hw dX0_leaderOf_25
def f_X0_leads (K : mK) (a0 : Nat) (a1 : Int32) (I0 : mI) (J0 : mJ) (R0 : mR) : Option Bool :=
  if a1 < 0 then
  some false
  else
  if K a0 = (0, 0) then
  (f_X0_leaderOf K a0 a1 I0 J0 R0).bind fun z3 =>
  if z3 = a1 then
  some true
  else
  some false
  else none
set_option maxHeartbeats 4000000 in
set_option maxRecDepth 100000 in
theorem r_X0_leads (l : Launch) (g : mG) (K : mK) (n : Nat) (hJ : mInj g n) (hO : mOk K n) (a0 : Nat) (a1 : Int32) (I0 : mI) (J0 : mJ) (R0 : mR) (out : Bool) (hf : f_X0_leads K a0 a1 I0 J0 R0 = some out) : Met l yX0_leads (mWs yX0_leads cX0_leads 2 (some .boolean)) ({ frames := 1, cells := 0, slots := 0, locals := 21 }) (va_Pc [.ref (g.2.1 a0), .int a1] (mB g K n I0 J0 R0)) (mQ g K n (some (.int (mb out))) I0 J0 R0) 0 0 (mA g n) := by
  unfold f_X0_leads at hf
  refine mStart RX0 hJ hO (by decide) rfl (Nat.le_of_ble_eq_true rfl) ?_
  intro p e s m below meth c ls Qm hQm B hr hlk hw hl
  have hx := B.1.1
  have hb := B.1.2.1
  have hl : lv_has ls 2 [(0, .ref (g.2.1 a0)), (1, .int a1)] := hl
  refine lv_iload_n hx hb dX0_leads_0 rfl (lv_at hl 1 rfl) ?_
  refine lv_if_lt (tgt := 17) hx hb dX0_leads_1 (by decide) (fun c1 => ?_) (fun c1 => ?_)
  · replace hf := mT1 c1 hf
    refine lv_iconst (v := (0 : Int32)) hx hb dX0_leads_17 (by decide) ?_
    rw [hQm, ← Option.some.inj hf]
    exact mrz (v := false) hx hb hr hlk hw dX0_leads_18
  · replace hf := mF1 c1 hf
    refine lv_aload_n hx hb dX0_leads_4 rfl (lv_at hl 0 rfl) ?_
    refine lv_iload_n hx hb dX0_leads_5 rfl (lv_at hl 1 rfl) ?_
    obtain ⟨h2, hf⟩ := mChk hf
    obtain ⟨z3, e4, hf⟩ := mBind hf
    refine mcallV (rest := []) (ci := 0) B hw [.int a1] clX0_29 rfl h2 (r_X0_leaderOf l g K n hJ hO a0 a1 I0 J0 R0 z3 e4) ⟨rfl, rfl, Nat.le_of_ble_eq_true rfl, Nat.le_of_ble_eq_true rfl⟩ rfl hl.1 (Nat.le_of_ble_eq_true rfl) ⟨Nat.zero_le _, Nat.zero_le _⟩ dX0_leads_6 (fun H locs hw => ?_)
    refine W.eq (g2 := F0 m 9 ls [.int z3]) rfl ?_
    refine lv_iload_n hx hb dX0_leads_9 rfl (lv_at hl 1 rfl) ?_
    refine lv_icmp_ne (tgt := 17) hx hb dX0_leads_10 (by decide) (fun c5 => ?_) (fun c5 => ?_)
    · replace hf := mF1 c5 hf
      refine lv_iconst (v := (0 : Int32)) hx hb dX0_leads_17 (by decide) ?_
      rw [hQm, ← Option.some.inj hf]
      exact mrz (v := false) hx hb hr hlk hw dX0_leads_18
    · replace hf := mT1 c5 hf
      refine lv_iconst (v := (1 : Int32)) hx hb dX0_leads_13 (by decide) ?_
      refine lv_goto (tgt := 18) hx hb dX0_leads_14 (by decide) ?_
      rw [hQm, ← Option.some.inj hf]
      exact mrz (v := true) hx hb hr hlk hw dX0_leads_18
def f_X0_unite_L16 (K : mK) (v0 : Nat) (v3 : Int32) (v4 : Int32) (J0 : mJ) (R0 : mR) : Nat → Int32 → mI → Option mI
  | 0, _, _ => none
  | N + 1, v5, I =>
  if K v0 = (0, 0) then
  (R0 v0 0).bind fun x2 =>
  if K x2 = (0, 2) then
  if (I x2 1) ≤ v5 then
  some I
  else
  (R0 v0 1).bind fun x6 =>
  if mIx K x6 1 v5 then
  if (I x6 (v5).toNatClampNeg) = v4 then
  (some (mup I x6 (v5).toNatClampNeg v3)).bind fun I10 =>
  f_X0_unite_L16 K v0 v3 v4 J0 R0 N (v5 + (1 : Int32)) I10
  else
  f_X0_unite_L16 K v0 v3 v4 J0 R0 N (v5 + (1 : Int32)) I
  else none
  else none
  else none
def f_X0_unite (K : mK) (a0 : Nat) (a1 : Int32) (a2 : Int32) (I0 : mI) (J0 : mJ) (R0 : mR) : Option mI :=
  (f_X0_unite_L16 K a0 (imin a1 a2) (imax a1 a2) J0 R0 8192 (0 : Int32) I0).bind fun z12 =>
  some z12
set_option maxHeartbeats 4000000 in
set_option maxRecDepth 100000 in
theorem r_X0_unite (l : Launch) (g : mG) (K : mK) (n : Nat) (hJ : mInj g n) (hO : mOk K n) (a0 : Nat) (a1 : Int32) (a2 : Int32) (I0 : mI) (J0 : mJ) (R0 : mR) (out : mI) (hf : f_X0_unite K a0 a1 a2 I0 J0 R0 = some out) : Met l yX0_unite (mWs yX0_unite cX0_unite 6 none) ({ frames := 1, cells := 0, slots := 0, locals := 21 }) (va_Pc [.ref (g.2.1 a0), .int a1, .int a2] (mB g K n I0 J0 R0)) (mQ g K n none out J0 R0) 0 0 (mA g n) := by
  unfold f_X0_unite at hf
  refine mStart RX0 hJ hO (by decide) rfl (Nat.le_of_ble_eq_true rfl) ?_
  intro p e s m below meth c ls Qm hQm B hr hlk hw hl
  have hx := B.1.1
  have hb := B.1.2.1
  have hl : lv_has ls 6 [(0, .ref (g.2.1 a0)), (1, .int a1), (2, .int a2)] := hl
  have L16 : ∀ (N : Nat) (v0 : Nat) (v3 : Int32) (v4 : Int32) (v5 : Int32) (I : mI) (z : mI) (H : Heap) (locs : List Loc) (ls : Array Slot), f_X0_unite_L16 K v0 v3 v4 J0 R0 N v5 I = some z → mHp g K n s I J0 R0 H locs → lv_has ls 6 [(0, .ref (g.2.1 v0)), (3, .int v3), (4, .int v4), (5, .int v5)] → (∀ (H : Heap) (locs : List Loc) (ls : Array Slot), mHp g K n s z J0 R0 H locs → lv_has ls 6 [] → W p l e ({ frames := 1, cells := 0, slots := 0, locals := 21 } : Room) s m ([.ref (g.2.1 a0), .int a1, .int a2] : List Value).toArray below meth c H locs 0 0 Qm (F0 m 54 ls [])) → W p l e ({ frames := 1, cells := 0, slots := 0, locals := 21 } : Room) s m ([.ref (g.2.1 a0), .int a1, .int a2] : List Value).toArray below meth c H locs 0 0 Qm (F0 m 16 ls []) := by
    intro N
    induction N with
    | zero =>
      intro v0 v3 v4 v5 I z H locs ls hf hw hl kx
      rw [f_X0_unite_L16] at hf
      cases hf
    | succ N ih =>
      intro v0 v3 v4 v5 I z H locs ls hf hw hl kx
      rw [f_X0_unite_L16] at hf
      refine lv_iload hx hb dX0_unite_16 (lv_at hl 3 rfl) ?_
      refine lv_aload_n hx hb dX0_unite_18 rfl (lv_at hl 0 rfl) ?_
      obtain ⟨h1, hf⟩ := mChk hf
      obtain ⟨x2, e3, hf⟩ := mBind hf
      refine mgr B hw flX0_12 rfl h1 e3 dX0_unite_19 ?_
      obtain ⟨h4, hf⟩ := mChk hf
      refine mgi B hw flX0_25 rfl h4 dX0_unite_22 ?_
      refine lv_icmp_ge (tgt := 54) hx hb dX0_unite_25 (by decide) (fun c5 => ?_) (fun c5 => ?_)
      · replace hf := mT1 c5 hf
        obtain rfl := Option.some.inj hf
        exact kx _ _ _ hw (lv_sub hl [] rfl)
      · replace hf := mF1 c5 hf
        refine lv_aload_n hx hb dX0_unite_28 rfl (lv_at hl 0 rfl) ?_
        obtain ⟨x6, e7, hf⟩ := mBind hf
        refine mgr B hw flX0_18 rfl h1 e7 dX0_unite_29 ?_
        refine lv_iload hx hb dX0_unite_32 (lv_at hl 3 rfl) ?_
        obtain ⟨h8, hf⟩ := mChk hf
        refine mld1 B hw h8 dX0_unite_34 ?_
        refine lv_iload hx hb dX0_unite_35 (lv_at hl 2 rfl) ?_
        refine lv_icmp_ne (tgt := 48) hx hb dX0_unite_37 (by decide) (fun c9 => ?_) (fun c9 => ?_)
        · replace hf := mF1 c9 hf
          refine lv_iinc (v := (v5 + (1 : Int32))) (lv' := [(5, .int (v5 + (1 : Int32))), (0, .ref (g.2.1 v0)), (3, .int v3), (4, .int v4)]) hx hb dX0_unite_48 hl (k := 3) rfl rfl (by decide) rfl (fun ls hl => ?_)
          refine lv_goto (tgt := 16) hx hb dX0_unite_51 (by decide) ?_
          exact ih v0 v3 v4 (v5 + (1 : Int32)) I z _ _ _ hf hw (lv_sub hl [1, 2, 3, 0] rfl) kx
        · replace hf := mT1 c9 hf
          refine lv_aload_n hx hb dX0_unite_40 rfl (lv_at hl 0 rfl) ?_
          refine mgr B hw flX0_18 rfl h1 e7 dX0_unite_41 ?_
          refine lv_iload hx hb dX0_unite_44 (lv_at hl 3 rfl) ?_
          refine lv_iload_n hx hb dX0_unite_46 rfl (lv_at hl 1 rfl) ?_
          obtain ⟨I10, e11, hf⟩ := mLet hf
          refine mst1 B hw h8 dX0_unite_47 (fun H locs hw => ?_)
          rw [← e11] at hw
          refine lv_iinc (v := (v5 + (1 : Int32))) (lv' := [(5, .int (v5 + (1 : Int32))), (0, .ref (g.2.1 v0)), (3, .int v3), (4, .int v4)]) hx hb dX0_unite_48 hl (k := 3) rfl rfl (by decide) rfl (fun ls hl => ?_)
          refine lv_goto (tgt := 16) hx hb dX0_unite_51 (by decide) ?_
          exact ih v0 v3 v4 (v5 + (1 : Int32)) I10 z _ _ _ hf hw (lv_sub hl [1, 2, 3, 0] rfl) kx
  refine lv_iload_n hx hb dX0_unite_0 rfl (lv_at hl 1 rfl) ?_
  refine lv_iload_n hx hb dX0_unite_1 rfl (lv_at hl 2 rfl) ?_
  refine mmmin B hl.1 mhX0_33 (Nat.le_of_ble_eq_true rfl) (Nat.le_of_ble_eq_true rfl) (Nat.zero_le _) (Nat.zero_le _) dX0_unite_2 ?_
  refine lv_istore_n (lv' := [(3, .int (imin a1 a2)), (0, .ref (g.2.1 a0)), (1, .int a1), (2, .int a2)]) hx hb dX0_unite_5 rfl hl (by decide) rfl (fun ls hl => ?_)
  refine lv_iload_n hx hb dX0_unite_6 rfl (lv_at hl 2 rfl) ?_
  refine lv_iload_n hx hb dX0_unite_7 rfl (lv_at hl 3 rfl) ?_
  refine mmmax B hl.1 mhX0_39 (Nat.le_of_ble_eq_true rfl) (Nat.le_of_ble_eq_true rfl) (Nat.zero_le _) (Nat.zero_le _) dX0_unite_8 ?_
  refine lv_istore (lv' := [(4, .int (imax a1 a2)), (3, .int (imin a1 a2)), (0, .ref (g.2.1 a0)), (1, .int a1), (2, .int a2)]) hx hb dX0_unite_11 hl (by decide) rfl (fun ls hl => ?_)
  refine lv_iconst (v := (0 : Int32)) hx hb dX0_unite_13 (by decide) ?_
  refine lv_istore (lv' := [(5, .int (0 : Int32)), (4, .int (imax a1 a2)), (3, .int (imin a1 a2)), (0, .ref (g.2.1 a0)), (1, .int a1), (2, .int a2)]) hx hb dX0_unite_14 hl (by decide) rfl (fun ls hl => ?_)
  obtain ⟨z12, e13, hf⟩ := mBind hf
  refine L16 8192 a0 (imin a1 a2) (imax a1 a2) (0 : Int32) I0 z12 _ _ _ e13 hw (lv_sub hl [3, 2, 1, 0] rfl) (fun H locs ls hw hl => ?_)
  rw [hQm, ← Option.some.inj hf]
  exact mrv hx hb hr hlk hw dX0_unite_54
def f_X1_forgetRow_L2 (K : mK) (v0 : Nat) (J0 : mJ) (R0 : mR) : Nat → Int32 → mI → Option mI
  | 0, _, _ => none
  | N + 1, v1, I =>
  if (K v0).1 = 1 then
  if (nI (K v0).2) ≤ v1 then
  some I
  else
  if mIx K v0 1 v1 then
  (some (mup I v0 (v1).toNatClampNeg (0 : Int32))).bind fun I4 =>
  f_X1_forgetRow_L2 K v0 J0 R0 N (v1 + (1 : Int32)) I4
  else none
  else none
def f_X1_forgetRow (K : mK) (a0 : Nat) (I0 : mI) (J0 : mJ) (R0 : mR) : Option mI :=
  (f_X1_forgetRow_L2 K a0 J0 R0 8192 (0 : Int32) I0).bind fun z6 =>
  some z6
set_option maxHeartbeats 4000000 in
set_option maxRecDepth 100000 in
theorem r_X1_forgetRow (l : Launch) (g : mG) (K : mK) (n : Nat) (hJ : mInj g n) (hO : mOk K n) (a0 : Nat) (I0 : mI) (J0 : mJ) (R0 : mR) (out : mI) (hf : f_X1_forgetRow K a0 I0 J0 R0 = some out) : Met l yX1_forgetRow (mWs yX1_forgetRow cX1_forgetRow 2 none) ({ frames := 0, cells := 0, slots := 0, locals := 0 }) (va_Pc [.ref (g.2.1 a0)] (mB g K n I0 J0 R0)) (mQ g K n none out J0 R0) 0 0 (mA g n) := by
  unfold f_X1_forgetRow at hf
  refine mStart RX1 hJ hO (by decide) rfl (Nat.le_of_ble_eq_true rfl) ?_
  intro p e s m below meth c ls Qm hQm B hr hlk hw hl
  have hx := B.1.1
  have hb := B.1.2.1
  have hl : lv_has ls 2 [(0, .ref (g.2.1 a0))] := hl
  have L2 : ∀ (N : Nat) (v0 : Nat) (v1 : Int32) (I : mI) (z : mI) (H : Heap) (locs : List Loc) (ls : Array Slot), f_X1_forgetRow_L2 K v0 J0 R0 N v1 I = some z → mHp g K n s I J0 R0 H locs → lv_has ls 2 [(0, .ref (g.2.1 v0)), (1, .int v1)] → (∀ (H : Heap) (locs : List Loc) (ls : Array Slot), mHp g K n s z J0 R0 H locs → lv_has ls 2 [] → W p l e ({ frames := 0, cells := 0, slots := 0, locals := 0 } : Room) s m ([.ref (g.2.1 a0)] : List Value).toArray below meth c H locs 0 0 Qm (F0 m 18 ls [])) → W p l e ({ frames := 0, cells := 0, slots := 0, locals := 0 } : Room) s m ([.ref (g.2.1 a0)] : List Value).toArray below meth c H locs 0 0 Qm (F0 m 2 ls []) := by
    intro N
    induction N with
    | zero =>
      intro v0 v1 I z H locs ls hf hw hl kx
      rw [f_X1_forgetRow_L2] at hf
      cases hf
    | succ N ih =>
      intro v0 v1 I z H locs ls hf hw hl kx
      rw [f_X1_forgetRow_L2] at hf
      refine lv_iload_n hx hb dX1_forgetRow_2 rfl (lv_at hl 1 rfl) ?_
      refine lv_aload_n hx hb dX1_forgetRow_3 rfl (lv_at hl 0 rfl) ?_
      obtain ⟨h1, hf⟩ := mChk hf
      refine mlen1 B hw h1 dX1_forgetRow_4 ?_
      refine lv_icmp_ge (tgt := 18) hx hb dX1_forgetRow_5 (by decide) (fun c2 => ?_) (fun c2 => ?_)
      · replace hf := mT1 c2 hf
        obtain rfl := Option.some.inj hf
        exact kx _ _ _ hw (lv_sub hl [] rfl)
      · replace hf := mF1 c2 hf
        refine lv_aload_n hx hb dX1_forgetRow_8 rfl (lv_at hl 0 rfl) ?_
        refine lv_iload_n hx hb dX1_forgetRow_9 rfl (lv_at hl 1 rfl) ?_
        refine lv_iconst (v := (0 : Int32)) hx hb dX1_forgetRow_10 (by decide) ?_
        obtain ⟨h3, hf⟩ := mChk hf
        obtain ⟨I4, e5, hf⟩ := mLet hf
        refine mst1 B hw h3 dX1_forgetRow_11 (fun H locs hw => ?_)
        rw [← e5] at hw
        refine lv_iinc (v := (v1 + (1 : Int32))) (lv' := [(1, .int (v1 + (1 : Int32))), (0, .ref (g.2.1 v0))]) hx hb dX1_forgetRow_12 hl (k := 1) rfl rfl (by decide) rfl (fun ls hl => ?_)
        refine lv_goto (tgt := 2) hx hb dX1_forgetRow_15 (by decide) ?_
        exact ih v0 (v1 + (1 : Int32)) I4 z _ _ _ hf hw (lv_sub hl [1, 0] rfl) kx
  refine lv_iconst (v := (0 : Int32)) hx hb dX1_forgetRow_0 (by decide) ?_
  refine lv_istore_n (lv' := [(1, .int (0 : Int32)), (0, .ref (g.2.1 a0))]) hx hb dX1_forgetRow_1 rfl hl (by decide) rfl (fun ls hl => ?_)
  obtain ⟨z6, e7, hf⟩ := mBind hf
  refine L2 8192 a0 (0 : Int32) I0 z6 _ _ _ e7 hw (lv_sub hl [1, 0] rfl) (fun H locs ls hw hl => ?_)
  rw [hQm, ← Option.some.inj hf]
  exact mrv hx hb hr hlk hw dX1_forgetRow_18
def f_X1_forget (K : mK) (a0 : Nat) (I0 : mI) (J0 : mJ) (R0 : mR) : Option mI :=
  if K a0 = (0, 1) then
  (some (mup I0 a0 0 (0 : Int32))).bind fun I2 =>
  (some (mup I2 a0 1 (0 : Int32))).bind fun I4 =>
  (some (mup I4 a0 2 (120 : Int32))).bind fun I6 =>
  (some (mup I6 a0 3 (0 : Int32))).bind fun I8 =>
  (R0 a0 4).bind fun x10 =>
  (f_X1_forgetRow K x10 I8 J0 R0).bind fun z12 =>
  (R0 a0 5).bind fun x14 =>
  (f_X1_forgetRow K x14 z12 J0 R0).bind fun z16 =>
  (R0 a0 6).bind fun x18 =>
  (f_X1_forgetRow K x18 z16 J0 R0).bind fun z20 =>
  some z20
  else none
set_option maxHeartbeats 4000000 in
set_option maxRecDepth 100000 in
theorem r_X1_forget (l : Launch) (g : mG) (K : mK) (n : Nat) (hJ : mInj g n) (hO : mOk K n) (a0 : Nat) (I0 : mI) (J0 : mJ) (R0 : mR) (out : mI) (hf : f_X1_forget K a0 I0 J0 R0 = some out) : Met l yX1_forget (mWs yX1_forget cX1_forget 1 none) ({ frames := 1, cells := 0, slots := 0, locals := 21 }) (va_Pc [.ref (g.2.1 a0)] (mB g K n I0 J0 R0)) (mQ g K n none out J0 R0) 0 0 (mA g n) := by
  unfold f_X1_forget at hf
  refine mStart RX1 hJ hO (by decide) rfl (Nat.le_of_ble_eq_true rfl) ?_
  intro p e s m below meth c ls Qm hQm B hr hlk hw hl
  have hx := B.1.1
  have hb := B.1.2.1
  have hl : lv_has ls 1 [(0, .ref (g.2.1 a0))] := hl
  refine lv_aload_n hx hb dX1_forget_0 rfl (lv_at hl 0 rfl) ?_
  refine lv_iconst (v := (0 : Int32)) hx hb dX1_forget_1 (by decide) ?_
  obtain ⟨h1, hf⟩ := mChk hf
  obtain ⟨I2, e3, hf⟩ := mLet hf
  refine mpi B hw puX1_28 rfl h1 dX1_forget_2 (fun H locs hw => ?_)
  rw [← e3] at hw
  refine lv_aload_n hx hb dX1_forget_5 rfl (lv_at hl 0 rfl) ?_
  refine lv_iconst (v := (0 : Int32)) hx hb dX1_forget_6 (by decide) ?_
  obtain ⟨I4, e5, hf⟩ := mLet hf
  refine mpi B hw puX1_31 rfl h1 dX1_forget_7 (fun H locs hw => ?_)
  rw [← e5] at hw
  refine lv_aload_n hx hb dX1_forget_10 rfl (lv_at hl 0 rfl) ?_
  refine lv_bipush (v := (120 : Int32)) hx hb dX1_forget_11 (by decide) ?_
  obtain ⟨I6, e7, hf⟩ := mLet hf
  refine mpi B hw puX1_9 rfl h1 dX1_forget_13 (fun H locs hw => ?_)
  rw [← e7] at hw
  refine lv_aload_n hx hb dX1_forget_16 rfl (lv_at hl 0 rfl) ?_
  refine lv_iconst (v := (0 : Int32)) hx hb dX1_forget_17 (by decide) ?_
  obtain ⟨I8, e9, hf⟩ := mLet hf
  refine mpi B hw puX1_34 rfl h1 dX1_forget_18 (fun H locs hw => ?_)
  rw [← e9] at hw
  refine lv_aload_n hx hb dX1_forget_21 rfl (lv_at hl 0 rfl) ?_
  obtain ⟨x10, e11, hf⟩ := mBind hf
  refine mgr B hw flX1_15 rfl h1 e11 dX1_forget_22 ?_
  obtain ⟨z12, e13, hf⟩ := mBind hf
  refine mcallS (rest := []) B hw [.ref (g.2.1 x10)] clX1_37 (r_X1_forgetRow l g K n hJ hO x10 I8 J0 R0 z12 e13) ⟨rfl, rfl, Nat.le_of_ble_eq_true rfl, Nat.le_of_ble_eq_true rfl⟩ rfl hl.1 (Nat.le_of_ble_eq_true rfl) ⟨Nat.zero_le _, Nat.zero_le _⟩ dX1_forget_25 (fun H locs hw => ?_)
  refine W.eq (g2 := F0 m 28 ls []) rfl ?_
  refine lv_aload_n hx hb dX1_forget_28 rfl (lv_at hl 0 rfl) ?_
  obtain ⟨x14, e15, hf⟩ := mBind hf
  refine mgr B hw flX1_19 rfl h1 e15 dX1_forget_29 ?_
  obtain ⟨z16, e17, hf⟩ := mBind hf
  refine mcallS (rest := []) B hw [.ref (g.2.1 x14)] clX1_37 (r_X1_forgetRow l g K n hJ hO x14 z12 J0 R0 z16 e17) ⟨rfl, rfl, Nat.le_of_ble_eq_true rfl, Nat.le_of_ble_eq_true rfl⟩ rfl hl.1 (Nat.le_of_ble_eq_true rfl) ⟨Nat.zero_le _, Nat.zero_le _⟩ dX1_forget_32 (fun H locs hw => ?_)
  refine W.eq (g2 := F0 m 35 ls []) rfl ?_
  refine lv_aload_n hx hb dX1_forget_35 rfl (lv_at hl 0 rfl) ?_
  obtain ⟨x18, e19, hf⟩ := mBind hf
  refine mgr B hw flX1_22 rfl h1 e19 dX1_forget_36 ?_
  obtain ⟨z20, e21, hf⟩ := mBind hf
  refine mcallS (rest := []) B hw [.ref (g.2.1 x18)] clX1_37 (r_X1_forgetRow l g K n hJ hO x18 z16 J0 R0 z20 e21) ⟨rfl, rfl, Nat.le_of_ble_eq_true rfl, Nat.le_of_ble_eq_true rfl⟩ rfl hl.1 (Nat.le_of_ble_eq_true rfl) ⟨Nat.zero_le _, Nat.zero_le _⟩ dX1_forget_39 (fun H locs hw => ?_)
  refine W.eq (g2 := F0 m 42 ls []) rfl ?_
  rw [hQm, ← Option.some.inj hf]
  exact mrv hx hb hr hlk hw dX1_forget_42
def f_X1_learnRow_L2 (K : mK) (v0 : Nat) (v1 : Nat) (J0 : mJ) (R0 : mR) : Nat → Int32 → mI → Option mI
  | 0, _, _ => none
  | N + 1, v2, I =>
  if (K v0).1 = 1 then
  if (nI (K v0).2) ≤ v2 then
  some I
  else
  if (K v1).1 = 1 then
  if (nI (K v1).2) ≤ v2 then
  some I
  else
  if mIx K v0 1 v2 then
  if (I v0 (v2).toNatClampNeg) = 0 then
  if mIx K v1 1 v2 then
  (some (mup I v0 (v2).toNatClampNeg (I v1 (v2).toNatClampNeg))).bind fun I8 =>
  f_X1_learnRow_L2 K v0 v1 J0 R0 N (v2 + (1 : Int32)) I8
  else none
  else
  f_X1_learnRow_L2 K v0 v1 J0 R0 N (v2 + (1 : Int32)) I
  else none
  else none
  else none
def f_X1_learnRow (K : mK) (a0 : Nat) (a1 : Nat) (I0 : mI) (J0 : mJ) (R0 : mR) : Option mI :=
  (f_X1_learnRow_L2 K a0 a1 J0 R0 8192 (0 : Int32) I0).bind fun z10 =>
  some z10
set_option maxHeartbeats 4000000 in
set_option maxRecDepth 100000 in
theorem r_X1_learnRow (l : Launch) (g : mG) (K : mK) (n : Nat) (hJ : mInj g n) (hO : mOk K n) (a0 : Nat) (a1 : Nat) (I0 : mI) (J0 : mJ) (R0 : mR) (out : mI) (hf : f_X1_learnRow K a0 a1 I0 J0 R0 = some out) : Met l yX1_learnRow (mWs yX1_learnRow cX1_learnRow 3 none) ({ frames := 0, cells := 0, slots := 0, locals := 0 }) (va_Pc [.ref (g.2.1 a0), .ref (g.2.1 a1)] (mB g K n I0 J0 R0)) (mQ g K n none out J0 R0) 0 0 (mA g n) := by
  unfold f_X1_learnRow at hf
  refine mStart RX1 hJ hO (by decide) rfl (Nat.le_of_ble_eq_true rfl) ?_
  intro p e s m below meth c ls Qm hQm B hr hlk hw hl
  have hx := B.1.1
  have hb := B.1.2.1
  have hl : lv_has ls 3 [(0, .ref (g.2.1 a0)), (1, .ref (g.2.1 a1))] := hl
  have L2 : ∀ (N : Nat) (v0 : Nat) (v1 : Nat) (v2 : Int32) (I : mI) (z : mI) (H : Heap) (locs : List Loc) (ls : Array Slot), f_X1_learnRow_L2 K v0 v1 J0 R0 N v2 I = some z → mHp g K n s I J0 R0 H locs → lv_has ls 3 [(0, .ref (g.2.1 v0)), (1, .ref (g.2.1 v1)), (2, .int v2)] → (∀ (H : Heap) (locs : List Loc) (ls : Array Slot), mHp g K n s z J0 R0 H locs → lv_has ls 3 [] → W p l e ({ frames := 0, cells := 0, slots := 0, locals := 0 } : Room) s m ([.ref (g.2.1 a0), .ref (g.2.1 a1)] : List Value).toArray below meth c H locs 0 0 Qm (F0 m 32 ls [])) → W p l e ({ frames := 0, cells := 0, slots := 0, locals := 0 } : Room) s m ([.ref (g.2.1 a0), .ref (g.2.1 a1)] : List Value).toArray below meth c H locs 0 0 Qm (F0 m 2 ls []) := by
    intro N
    induction N with
    | zero =>
      intro v0 v1 v2 I z H locs ls hf hw hl kx
      rw [f_X1_learnRow_L2] at hf
      cases hf
    | succ N ih =>
      intro v0 v1 v2 I z H locs ls hf hw hl kx
      rw [f_X1_learnRow_L2] at hf
      refine lv_iload_n hx hb dX1_learnRow_2 rfl (lv_at hl 2 rfl) ?_
      refine lv_aload_n hx hb dX1_learnRow_3 rfl (lv_at hl 0 rfl) ?_
      obtain ⟨h1, hf⟩ := mChk hf
      refine mlen1 B hw h1 dX1_learnRow_4 ?_
      refine lv_icmp_ge (tgt := 32) hx hb dX1_learnRow_5 (by decide) (fun c2 => ?_) (fun c2 => ?_)
      · replace hf := mT1 c2 hf
        obtain rfl := Option.some.inj hf
        exact kx _ _ _ hw (lv_sub hl [] rfl)
      · replace hf := mF1 c2 hf
        refine lv_iload_n hx hb dX1_learnRow_8 rfl (lv_at hl 2 rfl) ?_
        refine lv_aload_n hx hb dX1_learnRow_9 rfl (lv_at hl 1 rfl) ?_
        obtain ⟨h3, hf⟩ := mChk hf
        refine mlen1 B hw h3 dX1_learnRow_10 ?_
        refine lv_icmp_ge (tgt := 32) hx hb dX1_learnRow_11 (by decide) (fun c4 => ?_) (fun c4 => ?_)
        · replace hf := mT1 c4 hf
          obtain rfl := Option.some.inj hf
          exact kx _ _ _ hw (lv_sub hl [] rfl)
        · replace hf := mF1 c4 hf
          refine lv_aload_n hx hb dX1_learnRow_14 rfl (lv_at hl 0 rfl) ?_
          refine lv_iload_n hx hb dX1_learnRow_15 rfl (lv_at hl 2 rfl) ?_
          obtain ⟨h5, hf⟩ := mChk hf
          refine mld1 B hw h5 dX1_learnRow_16 ?_
          refine lv_if_ne (tgt := 26) hx hb dX1_learnRow_17 (by decide) (fun c6 => ?_) (fun c6 => ?_)
          · replace hf := mF1 c6 hf
            refine lv_iinc (v := (v2 + (1 : Int32))) (lv' := [(2, .int (v2 + (1 : Int32))), (0, .ref (g.2.1 v0)), (1, .ref (g.2.1 v1))]) hx hb dX1_learnRow_26 hl (k := 2) rfl rfl (by decide) rfl (fun ls hl => ?_)
            refine lv_goto (tgt := 2) hx hb dX1_learnRow_29 (by decide) ?_
            exact ih v0 v1 (v2 + (1 : Int32)) I z _ _ _ hf hw (lv_sub hl [1, 2, 0] rfl) kx
          · replace hf := mT1 c6 hf
            refine lv_aload_n hx hb dX1_learnRow_20 rfl (lv_at hl 0 rfl) ?_
            refine lv_iload_n hx hb dX1_learnRow_21 rfl (lv_at hl 2 rfl) ?_
            refine lv_aload_n hx hb dX1_learnRow_22 rfl (lv_at hl 1 rfl) ?_
            refine lv_iload_n hx hb dX1_learnRow_23 rfl (lv_at hl 2 rfl) ?_
            obtain ⟨h7, hf⟩ := mChk hf
            refine mld1 B hw h7 dX1_learnRow_24 ?_
            obtain ⟨I8, e9, hf⟩ := mLet hf
            refine mst1 B hw h5 dX1_learnRow_25 (fun H locs hw => ?_)
            rw [← e9] at hw
            refine lv_iinc (v := (v2 + (1 : Int32))) (lv' := [(2, .int (v2 + (1 : Int32))), (0, .ref (g.2.1 v0)), (1, .ref (g.2.1 v1))]) hx hb dX1_learnRow_26 hl (k := 2) rfl rfl (by decide) rfl (fun ls hl => ?_)
            refine lv_goto (tgt := 2) hx hb dX1_learnRow_29 (by decide) ?_
            exact ih v0 v1 (v2 + (1 : Int32)) I8 z _ _ _ hf hw (lv_sub hl [1, 2, 0] rfl) kx
  refine lv_iconst (v := (0 : Int32)) hx hb dX1_learnRow_0 (by decide) ?_
  refine lv_istore_n (lv' := [(2, .int (0 : Int32)), (0, .ref (g.2.1 a0)), (1, .ref (g.2.1 a1))]) hx hb dX1_learnRow_1 rfl hl (by decide) rfl (fun ls hl => ?_)
  obtain ⟨z10, e11, hf⟩ := mBind hf
  refine L2 8192 a0 a1 (0 : Int32) I0 z10 _ _ _ e11 hw (lv_sub hl [1, 2, 0] rfl) (fun H locs ls hw hl => ?_)
  rw [hQm, ← Option.some.inj hf]
  exact mrv hx hb hr hlk hw dX1_learnRow_32
def f_X1_learn (K : mK) (a0 : Nat) (a1 : Nat) (I0 : mI) (J0 : mJ) (R0 : mR) : Option mI :=
  if K a0 = (0, 1) then
  if (I0 a0 0) = 0 then
  if K a1 = (0, 1) then
  (some (mup I0 a0 0 (I0 a1 0))).bind fun I29 =>
  (some (mup I29 a0 1 (imax (I29 a0 1) (I29 a1 1)))).bind fun I31 =>
  (some (mup I31 a0 2 (imin (I31 a0 2) (I31 a1 2)))).bind fun I33 =>
  (some (mup I33 a0 3 ((I33 a0 3) ||| (I33 a1 3)))).bind fun I35 =>
  (R0 a0 4).bind fun x37 =>
  (R0 a1 4).bind fun x39 =>
  (f_X1_learnRow K x37 x39 I35 J0 R0).bind fun z41 =>
  (R0 a0 5).bind fun x43 =>
  (R0 a1 5).bind fun x45 =>
  (f_X1_learnRow K x43 x45 z41 J0 R0).bind fun z47 =>
  (R0 a0 6).bind fun x49 =>
  (R0 a1 6).bind fun x51 =>
  (f_X1_learnRow K x49 x51 z47 J0 R0).bind fun z53 =>
  some z53
  else none
  else
  if K a1 = (0, 1) then
  (some (mup I0 a0 1 (imax (I0 a0 1) (I0 a1 1)))).bind fun I4 =>
  (some (mup I4 a0 2 (imin (I4 a0 2) (I4 a1 2)))).bind fun I6 =>
  (some (mup I6 a0 3 ((I6 a0 3) ||| (I6 a1 3)))).bind fun I8 =>
  (R0 a0 4).bind fun x10 =>
  (R0 a1 4).bind fun x12 =>
  (f_X1_learnRow K x10 x12 I8 J0 R0).bind fun z14 =>
  (R0 a0 5).bind fun x16 =>
  (R0 a1 5).bind fun x18 =>
  (f_X1_learnRow K x16 x18 z14 J0 R0).bind fun z20 =>
  (R0 a0 6).bind fun x22 =>
  (R0 a1 6).bind fun x24 =>
  (f_X1_learnRow K x22 x24 z20 J0 R0).bind fun z26 =>
  some z26
  else none
  else none
set_option maxHeartbeats 4000000 in
set_option maxRecDepth 100000 in
theorem r_X1_learn (l : Launch) (g : mG) (K : mK) (n : Nat) (hJ : mInj g n) (hO : mOk K n) (a0 : Nat) (a1 : Nat) (I0 : mI) (J0 : mJ) (R0 : mR) (out : mI) (hf : f_X1_learn K a0 a1 I0 J0 R0 = some out) : Met l yX1_learn (mWs yX1_learn cX1_learn 2 none) ({ frames := 1, cells := 0, slots := 0, locals := 22 }) (va_Pc [.ref (g.2.1 a0), .ref (g.2.1 a1)] (mB g K n I0 J0 R0)) (mQ g K n none out J0 R0) 0 0 (mA g n) := by
  unfold f_X1_learn at hf
  refine mStart RX1 hJ hO (by decide) rfl (Nat.le_of_ble_eq_true rfl) ?_
  intro p e s m below meth c ls Qm hQm B hr hlk hw hl
  have hx := B.1.1
  have hb := B.1.2.1
  have hl : lv_has ls 2 [(0, .ref (g.2.1 a0)), (1, .ref (g.2.1 a1))] := hl
  refine lv_aload_n hx hb dX1_learn_0 rfl (lv_at hl 0 rfl) ?_
  obtain ⟨h1, hf⟩ := mChk hf
  refine mgi B hw flX1_28 rfl h1 dX1_learn_1 ?_
  refine lv_if_ne (tgt := 15) hx hb dX1_learn_4 (by decide) (fun c2 => ?_) (fun c2 => ?_)
  · replace hf := mF1 c2 hf
    refine lv_aload_n hx hb dX1_learn_15 rfl (lv_at hl 0 rfl) ?_
    refine lv_aload_n hx hb dX1_learn_16 rfl (lv_at hl 0 rfl) ?_
    refine mgi B hw flX1_31 rfl h1 dX1_learn_17 ?_
    refine lv_aload_n hx hb dX1_learn_20 rfl (lv_at hl 1 rfl) ?_
    obtain ⟨h3, hf⟩ := mChk hf
    refine mgi B hw flX1_31 rfl h3 dX1_learn_21 ?_
    refine mmmax B hl.1 mhX1_41 (Nat.le_of_ble_eq_true rfl) (Nat.le_of_ble_eq_true rfl) (Nat.zero_le _) (Nat.zero_le _) dX1_learn_24 ?_
    obtain ⟨I4, e5, hf⟩ := mLet hf
    refine mpi B hw puX1_31 rfl h1 dX1_learn_27 (fun H locs hw => ?_)
    rw [← e5] at hw
    refine lv_aload_n hx hb dX1_learn_30 rfl (lv_at hl 0 rfl) ?_
    refine lv_aload_n hx hb dX1_learn_31 rfl (lv_at hl 0 rfl) ?_
    refine mgi B hw flX1_9 rfl h1 dX1_learn_32 ?_
    refine lv_aload_n hx hb dX1_learn_35 rfl (lv_at hl 1 rfl) ?_
    refine mgi B hw flX1_9 rfl h3 dX1_learn_36 ?_
    refine mmmin B hl.1 mhX1_47 (Nat.le_of_ble_eq_true rfl) (Nat.le_of_ble_eq_true rfl) (Nat.zero_le _) (Nat.zero_le _) dX1_learn_39 ?_
    obtain ⟨I6, e7, hf⟩ := mLet hf
    refine mpi B hw puX1_9 rfl h1 dX1_learn_42 (fun H locs hw => ?_)
    rw [← e7] at hw
    refine lv_aload_n hx hb dX1_learn_45 rfl (lv_at hl 0 rfl) ?_
    refine lv_dup hx hb dX1_learn_46 rfl ?_
    refine mgi B hw flX1_34 rfl h1 dX1_learn_47 ?_
    refine lv_aload_n hx hb dX1_learn_50 rfl (lv_at hl 1 rfl) ?_
    refine mgi B hw flX1_34 rfl h3 dX1_learn_51 ?_
    refine lv_ior hx hb dX1_learn_54 ?_
    obtain ⟨I8, e9, hf⟩ := mLet hf
    refine mpi B hw puX1_34 rfl h1 dX1_learn_55 (fun H locs hw => ?_)
    rw [← e9] at hw
    refine lv_aload_n hx hb dX1_learn_58 rfl (lv_at hl 0 rfl) ?_
    obtain ⟨x10, e11, hf⟩ := mBind hf
    refine mgr B hw flX1_15 rfl h1 e11 dX1_learn_59 ?_
    refine lv_aload_n hx hb dX1_learn_62 rfl (lv_at hl 1 rfl) ?_
    obtain ⟨x12, e13, hf⟩ := mBind hf
    refine mgr B hw flX1_15 rfl h3 e13 dX1_learn_63 ?_
    obtain ⟨z14, e15, hf⟩ := mBind hf
    refine mcallS (rest := []) B hw [.ref (g.2.1 x10), .ref (g.2.1 x12)] clX1_50 (r_X1_learnRow l g K n hJ hO x10 x12 I8 J0 R0 z14 e15) ⟨rfl, rfl, Nat.le_of_ble_eq_true rfl, Nat.le_of_ble_eq_true rfl⟩ rfl hl.1 (Nat.le_of_ble_eq_true rfl) ⟨Nat.zero_le _, Nat.zero_le _⟩ dX1_learn_66 (fun H locs hw => ?_)
    refine W.eq (g2 := F0 m 69 ls []) rfl ?_
    refine lv_aload_n hx hb dX1_learn_69 rfl (lv_at hl 0 rfl) ?_
    obtain ⟨x16, e17, hf⟩ := mBind hf
    refine mgr B hw flX1_19 rfl h1 e17 dX1_learn_70 ?_
    refine lv_aload_n hx hb dX1_learn_73 rfl (lv_at hl 1 rfl) ?_
    obtain ⟨x18, e19, hf⟩ := mBind hf
    refine mgr B hw flX1_19 rfl h3 e19 dX1_learn_74 ?_
    obtain ⟨z20, e21, hf⟩ := mBind hf
    refine mcallS (rest := []) B hw [.ref (g.2.1 x16), .ref (g.2.1 x18)] clX1_50 (r_X1_learnRow l g K n hJ hO x16 x18 z14 J0 R0 z20 e21) ⟨rfl, rfl, Nat.le_of_ble_eq_true rfl, Nat.le_of_ble_eq_true rfl⟩ rfl hl.1 (Nat.le_of_ble_eq_true rfl) ⟨Nat.zero_le _, Nat.zero_le _⟩ dX1_learn_77 (fun H locs hw => ?_)
    refine W.eq (g2 := F0 m 80 ls []) rfl ?_
    refine lv_aload_n hx hb dX1_learn_80 rfl (lv_at hl 0 rfl) ?_
    obtain ⟨x22, e23, hf⟩ := mBind hf
    refine mgr B hw flX1_22 rfl h1 e23 dX1_learn_81 ?_
    refine lv_aload_n hx hb dX1_learn_84 rfl (lv_at hl 1 rfl) ?_
    obtain ⟨x24, e25, hf⟩ := mBind hf
    refine mgr B hw flX1_22 rfl h3 e25 dX1_learn_85 ?_
    obtain ⟨z26, e27, hf⟩ := mBind hf
    refine mcallS (rest := []) B hw [.ref (g.2.1 x22), .ref (g.2.1 x24)] clX1_50 (r_X1_learnRow l g K n hJ hO x22 x24 z20 J0 R0 z26 e27) ⟨rfl, rfl, Nat.le_of_ble_eq_true rfl, Nat.le_of_ble_eq_true rfl⟩ rfl hl.1 (Nat.le_of_ble_eq_true rfl) ⟨Nat.zero_le _, Nat.zero_le _⟩ dX1_learn_88 (fun H locs hw => ?_)
    refine W.eq (g2 := F0 m 91 ls []) rfl ?_
    rw [hQm, ← Option.some.inj hf]
    exact mrv hx hb hr hlk hw dX1_learn_91
  · replace hf := mT1 c2 hf
    refine lv_aload_n hx hb dX1_learn_7 rfl (lv_at hl 0 rfl) ?_
    refine lv_aload_n hx hb dX1_learn_8 rfl (lv_at hl 1 rfl) ?_
    obtain ⟨h28, hf⟩ := mChk hf
    refine mgi B hw flX1_28 rfl h28 dX1_learn_9 ?_
    obtain ⟨I29, e30, hf⟩ := mLet hf
    refine mpi B hw puX1_28 rfl h1 dX1_learn_12 (fun H locs hw => ?_)
    rw [← e30] at hw
    refine lv_aload_n hx hb dX1_learn_15 rfl (lv_at hl 0 rfl) ?_
    refine lv_aload_n hx hb dX1_learn_16 rfl (lv_at hl 0 rfl) ?_
    refine mgi B hw flX1_31 rfl h1 dX1_learn_17 ?_
    refine lv_aload_n hx hb dX1_learn_20 rfl (lv_at hl 1 rfl) ?_
    refine mgi B hw flX1_31 rfl h28 dX1_learn_21 ?_
    refine mmmax B hl.1 mhX1_41 (Nat.le_of_ble_eq_true rfl) (Nat.le_of_ble_eq_true rfl) (Nat.zero_le _) (Nat.zero_le _) dX1_learn_24 ?_
    obtain ⟨I31, e32, hf⟩ := mLet hf
    refine mpi B hw puX1_31 rfl h1 dX1_learn_27 (fun H locs hw => ?_)
    rw [← e32] at hw
    refine lv_aload_n hx hb dX1_learn_30 rfl (lv_at hl 0 rfl) ?_
    refine lv_aload_n hx hb dX1_learn_31 rfl (lv_at hl 0 rfl) ?_
    refine mgi B hw flX1_9 rfl h1 dX1_learn_32 ?_
    refine lv_aload_n hx hb dX1_learn_35 rfl (lv_at hl 1 rfl) ?_
    refine mgi B hw flX1_9 rfl h28 dX1_learn_36 ?_
    refine mmmin B hl.1 mhX1_47 (Nat.le_of_ble_eq_true rfl) (Nat.le_of_ble_eq_true rfl) (Nat.zero_le _) (Nat.zero_le _) dX1_learn_39 ?_
    obtain ⟨I33, e34, hf⟩ := mLet hf
    refine mpi B hw puX1_9 rfl h1 dX1_learn_42 (fun H locs hw => ?_)
    rw [← e34] at hw
    refine lv_aload_n hx hb dX1_learn_45 rfl (lv_at hl 0 rfl) ?_
    refine lv_dup hx hb dX1_learn_46 rfl ?_
    refine mgi B hw flX1_34 rfl h1 dX1_learn_47 ?_
    refine lv_aload_n hx hb dX1_learn_50 rfl (lv_at hl 1 rfl) ?_
    refine mgi B hw flX1_34 rfl h28 dX1_learn_51 ?_
    refine lv_ior hx hb dX1_learn_54 ?_
    obtain ⟨I35, e36, hf⟩ := mLet hf
    refine mpi B hw puX1_34 rfl h1 dX1_learn_55 (fun H locs hw => ?_)
    rw [← e36] at hw
    refine lv_aload_n hx hb dX1_learn_58 rfl (lv_at hl 0 rfl) ?_
    obtain ⟨x37, e38, hf⟩ := mBind hf
    refine mgr B hw flX1_15 rfl h1 e38 dX1_learn_59 ?_
    refine lv_aload_n hx hb dX1_learn_62 rfl (lv_at hl 1 rfl) ?_
    obtain ⟨x39, e40, hf⟩ := mBind hf
    refine mgr B hw flX1_15 rfl h28 e40 dX1_learn_63 ?_
    obtain ⟨z41, e42, hf⟩ := mBind hf
    refine mcallS (rest := []) B hw [.ref (g.2.1 x37), .ref (g.2.1 x39)] clX1_50 (r_X1_learnRow l g K n hJ hO x37 x39 I35 J0 R0 z41 e42) ⟨rfl, rfl, Nat.le_of_ble_eq_true rfl, Nat.le_of_ble_eq_true rfl⟩ rfl hl.1 (Nat.le_of_ble_eq_true rfl) ⟨Nat.zero_le _, Nat.zero_le _⟩ dX1_learn_66 (fun H locs hw => ?_)
    refine W.eq (g2 := F0 m 69 ls []) rfl ?_
    refine lv_aload_n hx hb dX1_learn_69 rfl (lv_at hl 0 rfl) ?_
    obtain ⟨x43, e44, hf⟩ := mBind hf
    refine mgr B hw flX1_19 rfl h1 e44 dX1_learn_70 ?_
    refine lv_aload_n hx hb dX1_learn_73 rfl (lv_at hl 1 rfl) ?_
    obtain ⟨x45, e46, hf⟩ := mBind hf
    refine mgr B hw flX1_19 rfl h28 e46 dX1_learn_74 ?_
    obtain ⟨z47, e48, hf⟩ := mBind hf
    refine mcallS (rest := []) B hw [.ref (g.2.1 x43), .ref (g.2.1 x45)] clX1_50 (r_X1_learnRow l g K n hJ hO x43 x45 z41 J0 R0 z47 e48) ⟨rfl, rfl, Nat.le_of_ble_eq_true rfl, Nat.le_of_ble_eq_true rfl⟩ rfl hl.1 (Nat.le_of_ble_eq_true rfl) ⟨Nat.zero_le _, Nat.zero_le _⟩ dX1_learn_77 (fun H locs hw => ?_)
    refine W.eq (g2 := F0 m 80 ls []) rfl ?_
    refine lv_aload_n hx hb dX1_learn_80 rfl (lv_at hl 0 rfl) ?_
    obtain ⟨x49, e50, hf⟩ := mBind hf
    refine mgr B hw flX1_22 rfl h1 e50 dX1_learn_81 ?_
    refine lv_aload_n hx hb dX1_learn_84 rfl (lv_at hl 1 rfl) ?_
    obtain ⟨x51, e52, hf⟩ := mBind hf
    refine mgr B hw flX1_22 rfl h28 e52 dX1_learn_85 ?_
    obtain ⟨z53, e54, hf⟩ := mBind hf
    refine mcallS (rest := []) B hw [.ref (g.2.1 x49), .ref (g.2.1 x51)] clX1_50 (r_X1_learnRow l g K n hJ hO x49 x51 z47 J0 R0 z53 e54) ⟨rfl, rfl, Nat.le_of_ble_eq_true rfl, Nat.le_of_ble_eq_true rfl⟩ rfl hl.1 (Nat.le_of_ble_eq_true rfl) ⟨Nat.zero_le _, Nat.zero_le _⟩ dX1_learn_88 (fun H locs hw => ?_)
    refine W.eq (g2 := F0 m 91 ls []) rfl ?_
    rw [hQm, ← Option.some.inj hf]
    exact mrv hx hb hr hlk hw dX1_learn_91
def f_X0_gather_L6 (K : mK) (v0 : Nat) (v1 : Int32) (v2 : Nat) (J0 : mJ) (R0 : mR) : Nat → Int32 → mI → Option mI
  | 0, _, _ => none
  | N + 1, v3, I =>
  if K v0 = (0, 0) then
  (R0 v0 0).bind fun x2 =>
  if K x2 = (0, 2) then
  if (I x2 1) ≤ v3 then
  some I
  else
  (R0 v0 1).bind fun x6 =>
  if mIx K x6 1 v3 then
  if (I x6 (v3).toNatClampNeg) = v1 then
  (R0 x2 0).bind fun x10 =>
  if mIx K x10 5 v3 then
  (R0 x10 (v3).toNatClampNeg).bind fun x13 =>
  if K v2 = (0, 1) then
  (f_X1_learn K v2 x13 I J0 R0).bind fun z16 =>
  f_X0_gather_L6 K v0 v1 v2 J0 R0 N (v3 + (1 : Int32)) z16
  else none
  else none
  else
  f_X0_gather_L6 K v0 v1 v2 J0 R0 N (v3 + (1 : Int32)) I
  else none
  else none
  else none
def f_X0_gather (K : mK) (a0 : Nat) (a1 : Int32) (a2 : Nat) (I0 : mI) (J0 : mJ) (R0 : mR) : Option mI :=
  if K a2 = (0, 1) then
  (f_X1_forget K a2 I0 J0 R0).bind fun z19 =>
  (f_X0_gather_L6 K a0 a1 a2 J0 R0 8192 (0 : Int32) z19).bind fun z21 =>
  some z21
  else none
set_option maxHeartbeats 4000000 in
set_option maxRecDepth 100000 in
theorem r_X0_gather (l : Launch) (g : mG) (K : mK) (n : Nat) (hJ : mInj g n) (hO : mOk K n) (a0 : Nat) (a1 : Int32) (a2 : Nat) (I0 : mI) (J0 : mJ) (R0 : mR) (out : mI) (hf : f_X0_gather K a0 a1 a2 I0 J0 R0 = some out) : Met l yX0_gather (mWs yX0_gather cX0_gather 4 none) ({ frames := 2, cells := 0, slots := 0, locals := 43 }) (va_Pc [.ref (g.2.1 a0), .int a1, .ref (g.2.1 a2)] (mB g K n I0 J0 R0)) (mQ g K n none out J0 R0) 0 0 (mA g n) := by
  unfold f_X0_gather at hf
  refine mStart RX0 hJ hO (by decide) rfl (Nat.le_of_ble_eq_true rfl) ?_
  intro p e s m below meth c ls Qm hQm B hr hlk hw hl
  have hx := B.1.1
  have hb := B.1.2.1
  have hl : lv_has ls 4 [(0, .ref (g.2.1 a0)), (1, .int a1), (2, .ref (g.2.1 a2))] := hl
  have L6 : ∀ (N : Nat) (v0 : Nat) (v1 : Int32) (v2 : Nat) (v3 : Int32) (I : mI) (z : mI) (H : Heap) (locs : List Loc) (ls : Array Slot), f_X0_gather_L6 K v0 v1 v2 J0 R0 N v3 I = some z → mHp g K n s I J0 R0 H locs → lv_has ls 4 [(0, .ref (g.2.1 v0)), (1, .int v1), (2, .ref (g.2.1 v2)), (3, .int v3)] → (∀ (H : Heap) (locs : List Loc) (ls : Array Slot), mHp g K n s z J0 R0 H locs → lv_has ls 4 [] → W p l e ({ frames := 2, cells := 0, slots := 0, locals := 43 } : Room) s m ([.ref (g.2.1 a0), .int a1, .ref (g.2.1 a2)] : List Value).toArray below meth c H locs 0 0 Qm (F0 m 46 ls [])) → W p l e ({ frames := 2, cells := 0, slots := 0, locals := 43 } : Room) s m ([.ref (g.2.1 a0), .int a1, .ref (g.2.1 a2)] : List Value).toArray below meth c H locs 0 0 Qm (F0 m 6 ls []) := by
    intro N
    induction N with
    | zero =>
      intro v0 v1 v2 v3 I z H locs ls hf hw hl kx
      rw [f_X0_gather_L6] at hf
      cases hf
    | succ N ih =>
      intro v0 v1 v2 v3 I z H locs ls hf hw hl kx
      rw [f_X0_gather_L6] at hf
      refine lv_iload_n hx hb dX0_gather_6 rfl (lv_at hl 3 rfl) ?_
      refine lv_aload_n hx hb dX0_gather_7 rfl (lv_at hl 0 rfl) ?_
      obtain ⟨h1, hf⟩ := mChk hf
      obtain ⟨x2, e3, hf⟩ := mBind hf
      refine mgr B hw flX0_12 rfl h1 e3 dX0_gather_8 ?_
      obtain ⟨h4, hf⟩ := mChk hf
      refine mgi B hw flX0_25 rfl h4 dX0_gather_11 ?_
      refine lv_icmp_ge (tgt := 46) hx hb dX0_gather_14 (by decide) (fun c5 => ?_) (fun c5 => ?_)
      · replace hf := mT1 c5 hf
        obtain rfl := Option.some.inj hf
        exact kx _ _ _ hw (lv_sub hl [] rfl)
      · replace hf := mF1 c5 hf
        refine lv_aload_n hx hb dX0_gather_17 rfl (lv_at hl 0 rfl) ?_
        obtain ⟨x6, e7, hf⟩ := mBind hf
        refine mgr B hw flX0_18 rfl h1 e7 dX0_gather_18 ?_
        refine lv_iload_n hx hb dX0_gather_21 rfl (lv_at hl 3 rfl) ?_
        obtain ⟨h8, hf⟩ := mChk hf
        refine mld1 B hw h8 dX0_gather_22 ?_
        refine lv_iload_n hx hb dX0_gather_23 rfl (lv_at hl 1 rfl) ?_
        refine lv_icmp_ne (tgt := 40) hx hb dX0_gather_24 (by decide) (fun c9 => ?_) (fun c9 => ?_)
        · replace hf := mF1 c9 hf
          refine lv_iinc (v := (v3 + (1 : Int32))) (lv' := [(3, .int (v3 + (1 : Int32))), (0, .ref (g.2.1 v0)), (1, .int v1), (2, .ref (g.2.1 v2))]) hx hb dX0_gather_40 hl (k := 3) rfl rfl (by decide) rfl (fun ls hl => ?_)
          refine lv_goto (tgt := 6) hx hb dX0_gather_43 (by decide) ?_
          exact ih v0 v1 v2 (v3 + (1 : Int32)) I z _ _ _ hf hw (lv_sub hl [1, 2, 3, 0] rfl) kx
        · replace hf := mT1 c9 hf
          refine lv_aload_n hx hb dX0_gather_27 rfl (lv_at hl 2 rfl) ?_
          refine lv_aload_n hx hb dX0_gather_28 rfl (lv_at hl 0 rfl) ?_
          refine mgr B hw flX0_12 rfl h1 e3 dX0_gather_29 ?_
          obtain ⟨x10, e11, hf⟩ := mBind hf
          refine mgr B hw flX0_47 rfl h4 e11 dX0_gather_32 ?_
          refine lv_iload_n hx hb dX0_gather_35 rfl (lv_at hl 3 rfl) ?_
          obtain ⟨h12, hf⟩ := mChk hf
          obtain ⟨x13, e14, hf⟩ := mBind hf
          refine mld5 B hw h12 e14 dX0_gather_36 ?_
          obtain ⟨h15, hf⟩ := mChk hf
          obtain ⟨z16, e17, hf⟩ := mBind hf
          refine mcallV (rest := []) (ci := 1) B hw [.ref (g.2.1 x13)] clX0_51 rfl h15 (r_X1_learn l g K n hJ hO v2 x13 I J0 R0 z16 e17) ⟨rfl, rfl, Nat.le_of_ble_eq_true rfl, Nat.le_of_ble_eq_true rfl⟩ rfl hl.1 (Nat.le_of_ble_eq_true rfl) ⟨Nat.zero_le _, Nat.zero_le _⟩ dX0_gather_37 (fun H locs hw => ?_)
          refine W.eq (g2 := F0 m 40 ls []) rfl ?_
          refine lv_iinc (v := (v3 + (1 : Int32))) (lv' := [(3, .int (v3 + (1 : Int32))), (0, .ref (g.2.1 v0)), (1, .int v1), (2, .ref (g.2.1 v2))]) hx hb dX0_gather_40 hl (k := 3) rfl rfl (by decide) rfl (fun ls hl => ?_)
          refine lv_goto (tgt := 6) hx hb dX0_gather_43 (by decide) ?_
          exact ih v0 v1 v2 (v3 + (1 : Int32)) z16 z _ _ _ hf hw (lv_sub hl [1, 2, 3, 0] rfl) kx
  refine lv_aload_n hx hb dX0_gather_0 rfl (lv_at hl 2 rfl) ?_
  obtain ⟨h18, hf⟩ := mChk hf
  obtain ⟨z19, e20, hf⟩ := mBind hf
  refine mcallV (rest := []) (ci := 1) B hw [] clX0_42 rfl h18 (r_X1_forget l g K n hJ hO a2 I0 J0 R0 z19 e20) ⟨rfl, rfl, Nat.le_of_ble_eq_true rfl, Nat.le_of_ble_eq_true rfl⟩ rfl hl.1 (Nat.le_of_ble_eq_true rfl) ⟨Nat.zero_le _, Nat.zero_le _⟩ dX0_gather_1 (fun H locs hw => ?_)
  refine W.eq (g2 := F0 m 4 ls []) rfl ?_
  refine lv_iconst (v := (0 : Int32)) hx hb dX0_gather_4 (by decide) ?_
  refine lv_istore_n (lv' := [(3, .int (0 : Int32)), (0, .ref (g.2.1 a0)), (1, .int a1), (2, .ref (g.2.1 a2))]) hx hb dX0_gather_5 rfl hl (by decide) rfl (fun ls hl => ?_)
  obtain ⟨z21, e22, hf⟩ := mBind hf
  refine L6 8192 a0 a1 a2 (0 : Int32) z19 z21 _ _ _ e22 hw (lv_sub hl [1, 2, 3, 0] rfl) (fun H locs ls hw hl => ?_)
  rw [hQm, ← Option.some.inj hf]
  exact mrv hx hb hr hlk hw dX0_gather_46
def f_X0_piecesBeside_L11 (K : mK) (v0 : Nat) (v1 : Int32) (v3 : Int32) (I0 : mI) (J0 : mJ) (R0 : mR) : Nat → Int32 → Int32 → Option Int32
  | 0, _, _ => none
  | N + 1, v2, v4 =>
  if K v0 = (0, 0) then
  (R0 v0 0).bind fun x2 =>
  if K x2 = (0, 2) then
  if (I0 x2 1) ≤ v4 then
  some v2
  else
  if v4 = v1 then
  f_X0_piecesBeside_L11 K v0 v1 v3 I0 J0 R0 N v2 (v4 + (1 : Int32))
  else
  (R0 v0 1).bind fun x7 =>
  if mIx K x7 1 v4 then
  if (I0 x7 (v4).toNatClampNeg) = v3 then
  (R0 x2 0).bind fun x11 =>
  if mIx K x11 5 v4 then
  (R0 x11 (v4).toNatClampNeg).bind fun x14 =>
  if K x14 = (0, 1) then
  f_X0_piecesBeside_L11 K v0 v1 v3 I0 J0 R0 N (v2 ||| (I0 x14 3)) (v4 + (1 : Int32))
  else none
  else none
  else
  f_X0_piecesBeside_L11 K v0 v1 v3 I0 J0 R0 N v2 (v4 + (1 : Int32))
  else none
  else none
  else none
def f_X0_piecesBeside (K : mK) (a0 : Nat) (a1 : Int32) (I0 : mI) (J0 : mJ) (R0 : mR) : Option Int32 :=
  if K a0 = (0, 0) then
  (f_X0_leaderOf K a0 a1 I0 J0 R0).bind fun z18 =>
  (f_X0_piecesBeside_L11 K a0 a1 z18 I0 J0 R0 8192 (0 : Int32) (0 : Int32)).bind fun z20 =>
  some z20
  else none
set_option maxHeartbeats 4000000 in
set_option maxRecDepth 100000 in
theorem r_X0_piecesBeside (l : Launch) (g : mG) (K : mK) (n : Nat) (hJ : mInj g n) (hO : mOk K n) (a0 : Nat) (a1 : Int32) (I0 : mI) (J0 : mJ) (R0 : mR) (out : Int32) (hf : f_X0_piecesBeside K a0 a1 I0 J0 R0 = some out) : Met l yX0_piecesBeside (mWs yX0_piecesBeside cX0_piecesBeside 5 (some .int)) ({ frames := 1, cells := 0, slots := 0, locals := 21 }) (va_Pc [.ref (g.2.1 a0), .int a1] (mB g K n I0 J0 R0)) (mQ g K n (some (.int out)) I0 J0 R0) 0 0 (mA g n) := by
  unfold f_X0_piecesBeside at hf
  refine mStart RX0 hJ hO (by decide) rfl (Nat.le_of_ble_eq_true rfl) ?_
  intro p e s m below meth c ls Qm hQm B hr hlk hw hl
  have hx := B.1.1
  have hb := B.1.2.1
  have hl : lv_has ls 5 [(0, .ref (g.2.1 a0)), (1, .int a1)] := hl
  have L11 : ∀ (N : Nat) (v0 : Nat) (v1 : Int32) (v2 : Int32) (v3 : Int32) (v4 : Int32) (z : Int32) (H : Heap) (locs : List Loc) (ls : Array Slot), f_X0_piecesBeside_L11 K v0 v1 v3 I0 J0 R0 N v2 v4 = some z → mHp g K n s I0 J0 R0 H locs → lv_has ls 5 [(0, .ref (g.2.1 v0)), (1, .int v1), (2, .int v2), (3, .int v3), (4, .int v4)] → (∀ (H : Heap) (locs : List Loc) (ls : Array Slot), mHp g K n s I0 J0 R0 H locs → lv_has ls 5 [(2, .int z)] → W p l e ({ frames := 1, cells := 0, slots := 0, locals := 21 } : Room) s m ([.ref (g.2.1 a0), .int a1] : List Value).toArray below meth c H locs 0 0 Qm (F0 m 62 ls [])) → W p l e ({ frames := 1, cells := 0, slots := 0, locals := 21 } : Room) s m ([.ref (g.2.1 a0), .int a1] : List Value).toArray below meth c H locs 0 0 Qm (F0 m 11 ls []) := by
    intro N
    induction N with
    | zero =>
      intro v0 v1 v2 v3 v4  z H locs ls hf hw hl kx
      rw [f_X0_piecesBeside_L11] at hf
      cases hf
    | succ N ih =>
      intro v0 v1 v2 v3 v4  z H locs ls hf hw hl kx
      rw [f_X0_piecesBeside_L11] at hf
      refine lv_iload hx hb dX0_piecesBeside_11 (lv_at hl 4 rfl) ?_
      refine lv_aload_n hx hb dX0_piecesBeside_13 rfl (lv_at hl 0 rfl) ?_
      obtain ⟨h1, hf⟩ := mChk hf
      obtain ⟨x2, e3, hf⟩ := mBind hf
      refine mgr B hw flX0_12 rfl h1 e3 dX0_piecesBeside_14 ?_
      obtain ⟨h4, hf⟩ := mChk hf
      refine mgi B hw flX0_25 rfl h4 dX0_piecesBeside_17 ?_
      refine lv_icmp_ge (tgt := 62) hx hb dX0_piecesBeside_20 (by decide) (fun c5 => ?_) (fun c5 => ?_)
      · replace hf := mT1 c5 hf
        obtain rfl := Option.some.inj hf
        exact kx _ _ _ hw (lv_sub hl [2] rfl)
      · replace hf := mF1 c5 hf
        refine lv_iload hx hb dX0_piecesBeside_23 (lv_at hl 4 rfl) ?_
        refine lv_iload_n hx hb dX0_piecesBeside_25 rfl (lv_at hl 1 rfl) ?_
        refine lv_icmp_eq (tgt := 56) hx hb dX0_piecesBeside_26 (by decide) (fun c6 => ?_) (fun c6 => ?_)
        · replace hf := mT1 c6 hf
          refine lv_iinc (v := (v4 + (1 : Int32))) (lv' := [(4, .int (v4 + (1 : Int32))), (0, .ref (g.2.1 v0)), (1, .int v1), (2, .int v2), (3, .int v3)]) hx hb dX0_piecesBeside_56 hl (k := 4) rfl rfl (by decide) rfl (fun ls hl => ?_)
          refine lv_goto (tgt := 11) hx hb dX0_piecesBeside_59 (by decide) ?_
          exact ih v0 v1 v2 v3 (v4 + (1 : Int32)) z _ _ _ hf hw (lv_sub hl [1, 2, 3, 4, 0] rfl) kx
        · replace hf := mF1 c6 hf
          refine lv_aload_n hx hb dX0_piecesBeside_29 rfl (lv_at hl 0 rfl) ?_
          obtain ⟨x7, e8, hf⟩ := mBind hf
          refine mgr B hw flX0_18 rfl h1 e8 dX0_piecesBeside_30 ?_
          refine lv_iload hx hb dX0_piecesBeside_33 (lv_at hl 4 rfl) ?_
          obtain ⟨h9, hf⟩ := mChk hf
          refine mld1 B hw h9 dX0_piecesBeside_35 ?_
          refine lv_iload_n hx hb dX0_piecesBeside_36 rfl (lv_at hl 3 rfl) ?_
          refine lv_icmp_ne (tgt := 56) hx hb dX0_piecesBeside_37 (by decide) (fun c10 => ?_) (fun c10 => ?_)
          · replace hf := mF1 c10 hf
            refine lv_iinc (v := (v4 + (1 : Int32))) (lv' := [(4, .int (v4 + (1 : Int32))), (0, .ref (g.2.1 v0)), (1, .int v1), (2, .int v2), (3, .int v3)]) hx hb dX0_piecesBeside_56 hl (k := 4) rfl rfl (by decide) rfl (fun ls hl => ?_)
            refine lv_goto (tgt := 11) hx hb dX0_piecesBeside_59 (by decide) ?_
            exact ih v0 v1 v2 v3 (v4 + (1 : Int32)) z _ _ _ hf hw (lv_sub hl [1, 2, 3, 4, 0] rfl) kx
          · replace hf := mT1 c10 hf
            refine lv_iload_n hx hb dX0_piecesBeside_40 rfl (lv_at hl 2 rfl) ?_
            refine lv_aload_n hx hb dX0_piecesBeside_41 rfl (lv_at hl 0 rfl) ?_
            refine mgr B hw flX0_12 rfl h1 e3 dX0_piecesBeside_42 ?_
            obtain ⟨x11, e12, hf⟩ := mBind hf
            refine mgr B hw flX0_47 rfl h4 e12 dX0_piecesBeside_45 ?_
            refine lv_iload hx hb dX0_piecesBeside_48 (lv_at hl 4 rfl) ?_
            obtain ⟨h13, hf⟩ := mChk hf
            obtain ⟨x14, e15, hf⟩ := mBind hf
            refine mld5 B hw h13 e15 dX0_piecesBeside_50 ?_
            obtain ⟨h16, hf⟩ := mChk hf
            refine mgi B hw flX0_55 rfl h16 dX0_piecesBeside_51 ?_
            refine lv_ior hx hb dX0_piecesBeside_54 ?_
            refine lv_istore_n (lv' := [(2, .int (v2 ||| (I0 x14 3))), (0, .ref (g.2.1 v0)), (1, .int v1), (3, .int v3), (4, .int v4)]) hx hb dX0_piecesBeside_55 rfl hl (by decide) rfl (fun ls hl => ?_)
            refine lv_iinc (v := (v4 + (1 : Int32))) (lv' := [(4, .int (v4 + (1 : Int32))), (2, .int (v2 ||| (I0 x14 3))), (0, .ref (g.2.1 v0)), (1, .int v1), (3, .int v3)]) hx hb dX0_piecesBeside_56 hl (k := 4) rfl rfl (by decide) rfl (fun ls hl => ?_)
            refine lv_goto (tgt := 11) hx hb dX0_piecesBeside_59 (by decide) ?_
            exact ih v0 v1 (v2 ||| (I0 x14 3)) v3 (v4 + (1 : Int32)) z _ _ _ hf hw (lv_sub hl [2, 3, 1, 4, 0] rfl) kx
  refine lv_iconst (v := (0 : Int32)) hx hb dX0_piecesBeside_0 (by decide) ?_
  refine lv_istore_n (lv' := [(2, .int (0 : Int32)), (0, .ref (g.2.1 a0)), (1, .int a1)]) hx hb dX0_piecesBeside_1 rfl hl (by decide) rfl (fun ls hl => ?_)
  refine lv_aload_n hx hb dX0_piecesBeside_2 rfl (lv_at hl 1 rfl) ?_
  refine lv_iload_n hx hb dX0_piecesBeside_3 rfl (lv_at hl 2 rfl) ?_
  obtain ⟨h17, hf⟩ := mChk hf
  obtain ⟨z18, e19, hf⟩ := mBind hf
  refine mcallV (rest := []) (ci := 0) B hw [.int a1] clX0_29 rfl h17 (r_X0_leaderOf l g K n hJ hO a0 a1 I0 J0 R0 z18 e19) ⟨rfl, rfl, Nat.le_of_ble_eq_true rfl, Nat.le_of_ble_eq_true rfl⟩ rfl hl.1 (Nat.le_of_ble_eq_true rfl) ⟨Nat.zero_le _, Nat.zero_le _⟩ dX0_piecesBeside_4 (fun H locs hw => ?_)
  refine W.eq (g2 := F0 m 7 ls [.int z18]) rfl ?_
  refine lv_istore_n (lv' := [(3, .int z18), (2, .int (0 : Int32)), (0, .ref (g.2.1 a0)), (1, .int a1)]) hx hb dX0_piecesBeside_7 rfl hl (by decide) rfl (fun ls hl => ?_)
  refine lv_iconst (v := (0 : Int32)) hx hb dX0_piecesBeside_8 (by decide) ?_
  refine lv_istore (lv' := [(4, .int (0 : Int32)), (3, .int z18), (2, .int (0 : Int32)), (0, .ref (g.2.1 a0)), (1, .int a1)]) hx hb dX0_piecesBeside_9 hl (by decide) rfl (fun ls hl => ?_)
  obtain ⟨z20, e21, hf⟩ := mBind hf
  refine L11 8192 a0 a1 (0 : Int32) z18 (0 : Int32) z20 _ _ _ e21 hw (lv_sub hl [3, 4, 2, 1, 0] rfl) (fun H locs ls hw hl => ?_)
  refine lv_iload_n hx hb dX0_piecesBeside_62 rfl (lv_at hl 0 rfl) ?_
  rw [hQm, ← Option.some.inj hf]
  exact mri hx hb hr hlk hw dX0_piecesBeside_63
def f_X0_sizeOf_L4 (K : mK) (v0 : Nat) (v1 : Int32) (I0 : mI) (J0 : mJ) (R0 : mR) : Nat → Int32 → Int32 → Option Int32
  | 0, _, _ => none
  | N + 1, v2, v3 =>
  if K v0 = (0, 0) then
  (R0 v0 0).bind fun x2 =>
  if K x2 = (0, 2) then
  if (I0 x2 1) ≤ v3 then
  some v2
  else
  (R0 v0 1).bind fun x6 =>
  if mIx K x6 1 v3 then
  if (I0 x6 (v3).toNatClampNeg) = v1 then
  f_X0_sizeOf_L4 K v0 v1 I0 J0 R0 N (v2 + (1 : Int32)) (v3 + (1 : Int32))
  else
  f_X0_sizeOf_L4 K v0 v1 I0 J0 R0 N v2 (v3 + (1 : Int32))
  else none
  else none
  else none
def f_X0_sizeOf (K : mK) (a0 : Nat) (a1 : Int32) (I0 : mI) (J0 : mJ) (R0 : mR) : Option Int32 :=
  (f_X0_sizeOf_L4 K a0 a1 I0 J0 R0 8192 (0 : Int32) (0 : Int32)).bind fun z10 =>
  some z10
set_option maxHeartbeats 4000000 in
set_option maxRecDepth 100000 in
theorem r_X0_sizeOf (l : Launch) (g : mG) (K : mK) (n : Nat) (hJ : mInj g n) (hO : mOk K n) (a0 : Nat) (a1 : Int32) (I0 : mI) (J0 : mJ) (R0 : mR) (out : Int32) (hf : f_X0_sizeOf K a0 a1 I0 J0 R0 = some out) : Met l yX0_sizeOf (mWs yX0_sizeOf cX0_sizeOf 4 (some .int)) ({ frames := 0, cells := 0, slots := 0, locals := 0 }) (va_Pc [.ref (g.2.1 a0), .int a1] (mB g K n I0 J0 R0)) (mQ g K n (some (.int out)) I0 J0 R0) 0 0 (mA g n) := by
  unfold f_X0_sizeOf at hf
  refine mStart RX0 hJ hO (by decide) rfl (Nat.le_of_ble_eq_true rfl) ?_
  intro p e s m below meth c ls Qm hQm B hr hlk hw hl
  have hx := B.1.1
  have hb := B.1.2.1
  have hl : lv_has ls 4 [(0, .ref (g.2.1 a0)), (1, .int a1)] := hl
  have L4 : ∀ (N : Nat) (v0 : Nat) (v1 : Int32) (v2 : Int32) (v3 : Int32) (z : Int32) (H : Heap) (locs : List Loc) (ls : Array Slot), f_X0_sizeOf_L4 K v0 v1 I0 J0 R0 N v2 v3 = some z → mHp g K n s I0 J0 R0 H locs → lv_has ls 4 [(0, .ref (g.2.1 v0)), (1, .int v1), (2, .int v2), (3, .int v3)] → (∀ (H : Heap) (locs : List Loc) (ls : Array Slot), mHp g K n s I0 J0 R0 H locs → lv_has ls 4 [(2, .int z)] → W p l e ({ frames := 0, cells := 0, slots := 0, locals := 0 } : Room) s m ([.ref (g.2.1 a0), .int a1] : List Value).toArray below meth c H locs 0 0 Qm (F0 m 34 ls [])) → W p l e ({ frames := 0, cells := 0, slots := 0, locals := 0 } : Room) s m ([.ref (g.2.1 a0), .int a1] : List Value).toArray below meth c H locs 0 0 Qm (F0 m 4 ls []) := by
    intro N
    induction N with
    | zero =>
      intro v0 v1 v2 v3  z H locs ls hf hw hl kx
      rw [f_X0_sizeOf_L4] at hf
      cases hf
    | succ N ih =>
      intro v0 v1 v2 v3  z H locs ls hf hw hl kx
      rw [f_X0_sizeOf_L4] at hf
      refine lv_iload_n hx hb dX0_sizeOf_4 rfl (lv_at hl 3 rfl) ?_
      refine lv_aload_n hx hb dX0_sizeOf_5 rfl (lv_at hl 0 rfl) ?_
      obtain ⟨h1, hf⟩ := mChk hf
      obtain ⟨x2, e3, hf⟩ := mBind hf
      refine mgr B hw flX0_12 rfl h1 e3 dX0_sizeOf_6 ?_
      obtain ⟨h4, hf⟩ := mChk hf
      refine mgi B hw flX0_25 rfl h4 dX0_sizeOf_9 ?_
      refine lv_icmp_ge (tgt := 34) hx hb dX0_sizeOf_12 (by decide) (fun c5 => ?_) (fun c5 => ?_)
      · replace hf := mT1 c5 hf
        obtain rfl := Option.some.inj hf
        exact kx _ _ _ hw (lv_sub hl [2] rfl)
      · replace hf := mF1 c5 hf
        refine lv_aload_n hx hb dX0_sizeOf_15 rfl (lv_at hl 0 rfl) ?_
        obtain ⟨x6, e7, hf⟩ := mBind hf
        refine mgr B hw flX0_18 rfl h1 e7 dX0_sizeOf_16 ?_
        refine lv_iload_n hx hb dX0_sizeOf_19 rfl (lv_at hl 3 rfl) ?_
        obtain ⟨h8, hf⟩ := mChk hf
        refine mld1 B hw h8 dX0_sizeOf_20 ?_
        refine lv_iload_n hx hb dX0_sizeOf_21 rfl (lv_at hl 1 rfl) ?_
        refine lv_icmp_ne (tgt := 28) hx hb dX0_sizeOf_22 (by decide) (fun c9 => ?_) (fun c9 => ?_)
        · replace hf := mF1 c9 hf
          refine lv_iinc (v := (v3 + (1 : Int32))) (lv' := [(3, .int (v3 + (1 : Int32))), (0, .ref (g.2.1 v0)), (1, .int v1), (2, .int v2)]) hx hb dX0_sizeOf_28 hl (k := 3) rfl rfl (by decide) rfl (fun ls hl => ?_)
          refine lv_goto (tgt := 4) hx hb dX0_sizeOf_31 (by decide) ?_
          exact ih v0 v1 v2 (v3 + (1 : Int32)) z _ _ _ hf hw (lv_sub hl [1, 2, 3, 0] rfl) kx
        · replace hf := mT1 c9 hf
          refine lv_iinc (v := (v2 + (1 : Int32))) (lv' := [(2, .int (v2 + (1 : Int32))), (0, .ref (g.2.1 v0)), (1, .int v1), (3, .int v3)]) hx hb dX0_sizeOf_25 hl (k := 2) rfl rfl (by decide) rfl (fun ls hl => ?_)
          refine lv_iinc (v := (v3 + (1 : Int32))) (lv' := [(3, .int (v3 + (1 : Int32))), (2, .int (v2 + (1 : Int32))), (0, .ref (g.2.1 v0)), (1, .int v1)]) hx hb dX0_sizeOf_28 hl (k := 3) rfl rfl (by decide) rfl (fun ls hl => ?_)
          refine lv_goto (tgt := 4) hx hb dX0_sizeOf_31 (by decide) ?_
          exact ih v0 v1 (v2 + (1 : Int32)) (v3 + (1 : Int32)) z _ _ _ hf hw (lv_sub hl [2, 3, 1, 0] rfl) kx
  refine lv_iconst (v := (0 : Int32)) hx hb dX0_sizeOf_0 (by decide) ?_
  refine lv_istore_n (lv' := [(2, .int (0 : Int32)), (0, .ref (g.2.1 a0)), (1, .int a1)]) hx hb dX0_sizeOf_1 rfl hl (by decide) rfl (fun ls hl => ?_)
  refine lv_iconst (v := (0 : Int32)) hx hb dX0_sizeOf_2 (by decide) ?_
  refine lv_istore_n (lv' := [(3, .int (0 : Int32)), (2, .int (0 : Int32)), (0, .ref (g.2.1 a0)), (1, .int a1)]) hx hb dX0_sizeOf_3 rfl hl (by decide) rfl (fun ls hl => ?_)
  obtain ⟨z10, e11, hf⟩ := mBind hf
  refine L4 8192 a0 a1 (0 : Int32) (0 : Int32) z10 _ _ _ e11 hw (lv_sub hl [2, 3, 1, 0] rfl) (fun H locs ls hw hl => ?_)
  refine lv_iload_n hx hb dX0_sizeOf_34 rfl (lv_at hl 0 rfl) ?_
  rw [hQm, ← Option.some.inj hf]
  exact mri hx hb hr hlk hw dX0_sizeOf_35
def f_X0_howMany_L4 (K : mK) (v0 : Nat) (I0 : mI) (J0 : mJ) (R0 : mR) : Nat → Int32 → Int32 → Option Int32
  | 0, _, _ => none
  | N + 1, v1, v2 =>
  if K v0 = (0, 0) then
  (R0 v0 0).bind fun x2 =>
  if K x2 = (0, 2) then
  if (I0 x2 1) ≤ v2 then
  some v1
  else
  (f_X0_leads K v0 v2 I0 J0 R0).bind fun z6 =>
  if (mb z6) = 0 then
  f_X0_howMany_L4 K v0 I0 J0 R0 N v1 (v2 + (1 : Int32))
  else
  f_X0_howMany_L4 K v0 I0 J0 R0 N (v1 + (1 : Int32)) (v2 + (1 : Int32))
  else none
  else none
def f_X0_howMany (K : mK) (a0 : Nat) (I0 : mI) (J0 : mJ) (R0 : mR) : Option Int32 :=
  (f_X0_howMany_L4 K a0 I0 J0 R0 8192 (0 : Int32) (0 : Int32)).bind fun z9 =>
  some z9
set_option maxHeartbeats 4000000 in
set_option maxRecDepth 100000 in
theorem r_X0_howMany (l : Launch) (g : mG) (K : mK) (n : Nat) (hJ : mInj g n) (hO : mOk K n) (a0 : Nat) (I0 : mI) (J0 : mJ) (R0 : mR) (out : Int32) (hf : f_X0_howMany K a0 I0 J0 R0 = some out) : Met l yX0_howMany (mWs yX0_howMany cX0_howMany 3 (some .int)) ({ frames := 2, cells := 0, slots := 0, locals := 42 }) (va_Pc [.ref (g.2.1 a0)] (mB g K n I0 J0 R0)) (mQ g K n (some (.int out)) I0 J0 R0) 0 0 (mA g n) := by
  unfold f_X0_howMany at hf
  refine mStart RX0 hJ hO (by decide) rfl (Nat.le_of_ble_eq_true rfl) ?_
  intro p e s m below meth c ls Qm hQm B hr hlk hw hl
  have hx := B.1.1
  have hb := B.1.2.1
  have hl : lv_has ls 3 [(0, .ref (g.2.1 a0))] := hl
  have L4 : ∀ (N : Nat) (v0 : Nat) (v1 : Int32) (v2 : Int32) (z : Int32) (H : Heap) (locs : List Loc) (ls : Array Slot), f_X0_howMany_L4 K v0 I0 J0 R0 N v1 v2 = some z → mHp g K n s I0 J0 R0 H locs → lv_has ls 3 [(0, .ref (g.2.1 v0)), (1, .int v1), (2, .int v2)] → (∀ (H : Heap) (locs : List Loc) (ls : Array Slot), mHp g K n s I0 J0 R0 H locs → lv_has ls 3 [(1, .int z)] → W p l e ({ frames := 2, cells := 0, slots := 0, locals := 42 } : Room) s m ([.ref (g.2.1 a0)] : List Value).toArray below meth c H locs 0 0 Qm (F0 m 32 ls [])) → W p l e ({ frames := 2, cells := 0, slots := 0, locals := 42 } : Room) s m ([.ref (g.2.1 a0)] : List Value).toArray below meth c H locs 0 0 Qm (F0 m 4 ls []) := by
    intro N
    induction N with
    | zero =>
      intro v0 v1 v2  z H locs ls hf hw hl kx
      rw [f_X0_howMany_L4] at hf
      cases hf
    | succ N ih =>
      intro v0 v1 v2  z H locs ls hf hw hl kx
      rw [f_X0_howMany_L4] at hf
      refine lv_iload_n hx hb dX0_howMany_4 rfl (lv_at hl 2 rfl) ?_
      refine lv_aload_n hx hb dX0_howMany_5 rfl (lv_at hl 0 rfl) ?_
      obtain ⟨h1, hf⟩ := mChk hf
      obtain ⟨x2, e3, hf⟩ := mBind hf
      refine mgr B hw flX0_12 rfl h1 e3 dX0_howMany_6 ?_
      obtain ⟨h4, hf⟩ := mChk hf
      refine mgi B hw flX0_25 rfl h4 dX0_howMany_9 ?_
      refine lv_icmp_ge (tgt := 32) hx hb dX0_howMany_12 (by decide) (fun c5 => ?_) (fun c5 => ?_)
      · replace hf := mT1 c5 hf
        obtain rfl := Option.some.inj hf
        exact kx _ _ _ hw (lv_sub hl [1] rfl)
      · replace hf := mF1 c5 hf
        refine lv_aload_n hx hb dX0_howMany_15 rfl (lv_at hl 0 rfl) ?_
        refine lv_iload_n hx hb dX0_howMany_16 rfl (lv_at hl 2 rfl) ?_
        obtain ⟨z6, e7, hf⟩ := mBind hf
        refine mcallV (rest := []) (ci := 0) B hw [.int v2] clX0_58 rfl h1 (r_X0_leads l g K n hJ hO v0 v2 I0 J0 R0 z6 e7) ⟨rfl, rfl, Nat.le_of_ble_eq_true rfl, Nat.le_of_ble_eq_true rfl⟩ rfl hl.1 (Nat.le_of_ble_eq_true rfl) ⟨Nat.zero_le _, Nat.zero_le _⟩ dX0_howMany_17 (fun H locs hw => ?_)
        refine W.eq (g2 := F0 m 20 ls [.int (mb z6)]) rfl ?_
        refine lv_if_eq (tgt := 26) hx hb dX0_howMany_20 (by decide) (fun c8 => ?_) (fun c8 => ?_)
        · replace hf := mT1 c8 hf
          refine lv_iinc (v := (v2 + (1 : Int32))) (lv' := [(2, .int (v2 + (1 : Int32))), (0, .ref (g.2.1 v0)), (1, .int v1)]) hx hb dX0_howMany_26 hl (k := 2) rfl rfl (by decide) rfl (fun ls hl => ?_)
          refine lv_goto (tgt := 4) hx hb dX0_howMany_29 (by decide) ?_
          exact ih v0 v1 (v2 + (1 : Int32)) z _ _ _ hf hw (lv_sub hl [1, 2, 0] rfl) kx
        · replace hf := mF1 c8 hf
          refine lv_iinc (v := (v1 + (1 : Int32))) (lv' := [(1, .int (v1 + (1 : Int32))), (0, .ref (g.2.1 v0)), (2, .int v2)]) hx hb dX0_howMany_23 hl (k := 1) rfl rfl (by decide) rfl (fun ls hl => ?_)
          refine lv_iinc (v := (v2 + (1 : Int32))) (lv' := [(2, .int (v2 + (1 : Int32))), (1, .int (v1 + (1 : Int32))), (0, .ref (g.2.1 v0))]) hx hb dX0_howMany_26 hl (k := 2) rfl rfl (by decide) rfl (fun ls hl => ?_)
          refine lv_goto (tgt := 4) hx hb dX0_howMany_29 (by decide) ?_
          exact ih v0 (v1 + (1 : Int32)) (v2 + (1 : Int32)) z _ _ _ hf hw (lv_sub hl [2, 1, 0] rfl) kx
  refine lv_iconst (v := (0 : Int32)) hx hb dX0_howMany_0 (by decide) ?_
  refine lv_istore_n (lv' := [(1, .int (0 : Int32)), (0, .ref (g.2.1 a0))]) hx hb dX0_howMany_1 rfl hl (by decide) rfl (fun ls hl => ?_)
  refine lv_iconst (v := (0 : Int32)) hx hb dX0_howMany_2 (by decide) ?_
  refine lv_istore_n (lv' := [(2, .int (0 : Int32)), (1, .int (0 : Int32)), (0, .ref (g.2.1 a0))]) hx hb dX0_howMany_3 rfl hl (by decide) rfl (fun ls hl => ?_)
  obtain ⟨z9, e10, hf⟩ := mBind hf
  refine L4 8192 a0 (0 : Int32) (0 : Int32) z9 _ _ _ e10 hw (lv_sub hl [2, 1, 0] rfl) (fun H locs ls hw hl => ?_)
  refine lv_iload_n hx hb dX0_howMany_32 rfl (lv_at hl 0 rfl) ?_
  rw [hQm, ← Option.some.inj hf]
  exact mri hx hb hr hlk hw dX0_howMany_33
def f_X0_howManyNamed_L4 (K : mK) (v0 : Nat) (I0 : mI) (J0 : mJ) (R0 : mR) : Nat → Int32 → Int32 → Option Int32
  | 0, _, _ => none
  | N + 1, v1, v2 =>
  if (12 : Int32) ≤ v2 then
  some v1
  else
  if K v0 = (0, 0) then
  (R0 v0 2).bind fun x3 =>
  if mIx K x3 1 v2 then
  if (I0 x3 (v2).toNatClampNeg) = (-1 : Int32) then
  f_X0_howManyNamed_L4 K v0 I0 J0 R0 N v1 (v2 + (1 : Int32))
  else
  f_X0_howManyNamed_L4 K v0 I0 J0 R0 N (v1 + (1 : Int32)) (v2 + (1 : Int32))
  else none
  else none
def f_X0_howManyNamed (K : mK) (a0 : Nat) (I0 : mI) (J0 : mJ) (R0 : mR) : Option Int32 :=
  (f_X0_howManyNamed_L4 K a0 I0 J0 R0 8192 (0 : Int32) (0 : Int32)).bind fun z7 =>
  some z7
set_option maxHeartbeats 4000000 in
set_option maxRecDepth 100000 in
theorem r_X0_howManyNamed (l : Launch) (g : mG) (K : mK) (n : Nat) (hJ : mInj g n) (hO : mOk K n) (a0 : Nat) (I0 : mI) (J0 : mJ) (R0 : mR) (out : Int32) (hf : f_X0_howManyNamed K a0 I0 J0 R0 = some out) : Met l yX0_howManyNamed (mWs yX0_howManyNamed cX0_howManyNamed 3 (some .int)) ({ frames := 0, cells := 0, slots := 0, locals := 0 }) (va_Pc [.ref (g.2.1 a0)] (mB g K n I0 J0 R0)) (mQ g K n (some (.int out)) I0 J0 R0) 0 0 (mA g n) := by
  unfold f_X0_howManyNamed at hf
  refine mStart RX0 hJ hO (by decide) rfl (Nat.le_of_ble_eq_true rfl) ?_
  intro p e s m below meth c ls Qm hQm B hr hlk hw hl
  have hx := B.1.1
  have hb := B.1.2.1
  have hl : lv_has ls 3 [(0, .ref (g.2.1 a0))] := hl
  have L4 : ∀ (N : Nat) (v0 : Nat) (v1 : Int32) (v2 : Int32) (z : Int32) (H : Heap) (locs : List Loc) (ls : Array Slot), f_X0_howManyNamed_L4 K v0 I0 J0 R0 N v1 v2 = some z → mHp g K n s I0 J0 R0 H locs → lv_has ls 3 [(0, .ref (g.2.1 v0)), (1, .int v1), (2, .int v2)] → (∀ (H : Heap) (locs : List Loc) (ls : Array Slot), mHp g K n s I0 J0 R0 H locs → lv_has ls 3 [(1, .int z)] → W p l e ({ frames := 0, cells := 0, slots := 0, locals := 0 } : Room) s m ([.ref (g.2.1 a0)] : List Value).toArray below meth c H locs 0 0 Qm (F0 m 29 ls [])) → W p l e ({ frames := 0, cells := 0, slots := 0, locals := 0 } : Room) s m ([.ref (g.2.1 a0)] : List Value).toArray below meth c H locs 0 0 Qm (F0 m 4 ls []) := by
    intro N
    induction N with
    | zero =>
      intro v0 v1 v2  z H locs ls hf hw hl kx
      rw [f_X0_howManyNamed_L4] at hf
      cases hf
    | succ N ih =>
      intro v0 v1 v2  z H locs ls hf hw hl kx
      rw [f_X0_howManyNamed_L4] at hf
      refine lv_iload_n hx hb dX0_howManyNamed_4 rfl (lv_at hl 2 rfl) ?_
      refine lv_bipush (v := (12 : Int32)) hx hb dX0_howManyNamed_5 (by decide) ?_
      refine lv_icmp_ge (tgt := 29) hx hb dX0_howManyNamed_7 (by decide) (fun c1 => ?_) (fun c1 => ?_)
      · replace hf := mT1 c1 hf
        obtain rfl := Option.some.inj hf
        exact kx _ _ _ hw (lv_sub hl [1] rfl)
      · replace hf := mF1 c1 hf
        refine lv_aload_n hx hb dX0_howManyNamed_10 rfl (lv_at hl 0 rfl) ?_
        obtain ⟨h2, hf⟩ := mChk hf
        obtain ⟨x3, e4, hf⟩ := mBind hf
        refine mgr B hw flX0_22 rfl h2 e4 dX0_howManyNamed_11 ?_
        refine lv_iload_n hx hb dX0_howManyNamed_14 rfl (lv_at hl 2 rfl) ?_
        obtain ⟨h5, hf⟩ := mChk hf
        refine mld1 B hw h5 dX0_howManyNamed_15 ?_
        refine lv_iconst (v := (-1 : Int32)) hx hb dX0_howManyNamed_16 (by decide) ?_
        refine lv_icmp_eq (tgt := 23) hx hb dX0_howManyNamed_17 (by decide) (fun c6 => ?_) (fun c6 => ?_)
        · replace hf := mT1 c6 hf
          refine lv_iinc (v := (v2 + (1 : Int32))) (lv' := [(2, .int (v2 + (1 : Int32))), (0, .ref (g.2.1 v0)), (1, .int v1)]) hx hb dX0_howManyNamed_23 hl (k := 2) rfl rfl (by decide) rfl (fun ls hl => ?_)
          refine lv_goto (tgt := 4) hx hb dX0_howManyNamed_26 (by decide) ?_
          exact ih v0 v1 (v2 + (1 : Int32)) z _ _ _ hf hw (lv_sub hl [1, 2, 0] rfl) kx
        · replace hf := mF1 c6 hf
          refine lv_iinc (v := (v1 + (1 : Int32))) (lv' := [(1, .int (v1 + (1 : Int32))), (0, .ref (g.2.1 v0)), (2, .int v2)]) hx hb dX0_howManyNamed_20 hl (k := 1) rfl rfl (by decide) rfl (fun ls hl => ?_)
          refine lv_iinc (v := (v2 + (1 : Int32))) (lv' := [(2, .int (v2 + (1 : Int32))), (1, .int (v1 + (1 : Int32))), (0, .ref (g.2.1 v0))]) hx hb dX0_howManyNamed_23 hl (k := 2) rfl rfl (by decide) rfl (fun ls hl => ?_)
          refine lv_goto (tgt := 4) hx hb dX0_howManyNamed_26 (by decide) ?_
          exact ih v0 (v1 + (1 : Int32)) (v2 + (1 : Int32)) z _ _ _ hf hw (lv_sub hl [2, 1, 0] rfl) kx
  refine lv_iconst (v := (0 : Int32)) hx hb dX0_howManyNamed_0 (by decide) ?_
  refine lv_istore_n (lv' := [(1, .int (0 : Int32)), (0, .ref (g.2.1 a0))]) hx hb dX0_howManyNamed_1 rfl hl (by decide) rfl (fun ls hl => ?_)
  refine lv_iconst (v := (0 : Int32)) hx hb dX0_howManyNamed_2 (by decide) ?_
  refine lv_istore_n (lv' := [(2, .int (0 : Int32)), (1, .int (0 : Int32)), (0, .ref (g.2.1 a0))]) hx hb dX0_howManyNamed_3 rfl hl (by decide) rfl (fun ls hl => ?_)
  obtain ⟨z7, e8, hf⟩ := mBind hf
  refine L4 8192 a0 (0 : Int32) (0 : Int32) z7 _ _ _ e8 hw (lv_sub hl [2, 1, 0] rfl) (fun H locs ls hw hl => ?_)
  refine lv_iload_n hx hb dX0_howManyNamed_29 rfl (lv_at hl 0 rfl) ?_
  rw [hQm, ← Option.some.inj hf]
  exact mri hx hb hr hlk hw dX0_howManyNamed_30
def f_X0_hasGiven_L2 (K : mK) (v0 : Nat) (v1 : Int32) (I0 : mI) (J0 : mJ) (R0 : mR) : Nat → Int32 → Option (Bool ⊕ Unit)
  | 0, _ => none
  | N + 1, v2 =>
  if (12 : Int32) ≤ v2 then
  some (Sum.inr ())
  else
  if K v0 = (0, 0) then
  (R0 v0 2).bind fun x3 =>
  if mIx K x3 1 v2 then
  if (I0 x3 (v2).toNatClampNeg) = v1 then
  some (Sum.inl true)
  else
  f_X0_hasGiven_L2 K v0 v1 I0 J0 R0 N (v2 + (1 : Int32))
  else none
  else none
def f_X0_hasGiven (K : mK) (a0 : Nat) (a1 : Int32) (I0 : mI) (J0 : mJ) (R0 : mR) : Option Bool :=
  (f_X0_hasGiven_L2 K a0 a1 I0 J0 R0 8192 (0 : Int32)).bind fun z7 => Sum.elim (fun o => some o) (fun w9 =>
  some false) z7
set_option maxHeartbeats 4000000 in
set_option maxRecDepth 100000 in
theorem r_X0_hasGiven (l : Launch) (g : mG) (K : mK) (n : Nat) (hJ : mInj g n) (hO : mOk K n) (a0 : Nat) (a1 : Int32) (I0 : mI) (J0 : mJ) (R0 : mR) (out : Bool) (hf : f_X0_hasGiven K a0 a1 I0 J0 R0 = some out) : Met l yX0_hasGiven (mWs yX0_hasGiven cX0_hasGiven 3 (some .boolean)) ({ frames := 0, cells := 0, slots := 0, locals := 0 }) (va_Pc [.ref (g.2.1 a0), .int a1] (mB g K n I0 J0 R0)) (mQ g K n (some (.int (mb out))) I0 J0 R0) 0 0 (mA g n) := by
  unfold f_X0_hasGiven at hf
  refine mStart RX0 hJ hO (by decide) rfl (Nat.le_of_ble_eq_true rfl) ?_
  intro p e s m below meth c ls Qm hQm B hr hlk hw hl
  have hx := B.1.1
  have hb := B.1.2.1
  have hl : lv_has ls 3 [(0, .ref (g.2.1 a0)), (1, .int a1)] := hl
  have L2 : ∀ (N : Nat) (v0 : Nat) (v1 : Int32) (v2 : Int32) (z : (Bool ⊕ Unit)) (H : Heap) (locs : List Loc) (ls : Array Slot), f_X0_hasGiven_L2 K v0 v1 I0 J0 R0 N v2 = some z → mHp g K n s I0 J0 R0 H locs → lv_has ls 3 [(0, .ref (g.2.1 v0)), (1, .int v1), (2, .int v2)] → (∀ w, z = Sum.inr w → (∀ (H : Heap) (locs : List Loc) (ls : Array Slot), mHp g K n s I0 J0 R0 H locs → lv_has ls 3 [] → W p l e ({ frames := 0, cells := 0, slots := 0, locals := 0 } : Room) s m ([.ref (g.2.1 a0), .int a1] : List Value).toArray below meth c H locs 0 0 Qm (F0 m 26 ls []))) → (∀ o, z = Sum.inl o → o = out) → W p l e ({ frames := 0, cells := 0, slots := 0, locals := 0 } : Room) s m ([.ref (g.2.1 a0), .int a1] : List Value).toArray below meth c H locs 0 0 Qm (F0 m 2 ls []) := by
    intro N
    induction N with
    | zero =>
      intro v0 v1 v2  z H locs ls hf hw hl kx ko
      rw [f_X0_hasGiven_L2] at hf
      cases hf
    | succ N ih =>
      intro v0 v1 v2  z H locs ls hf hw hl kx ko
      rw [f_X0_hasGiven_L2] at hf
      refine lv_iload_n hx hb dX0_hasGiven_2 rfl (lv_at hl 2 rfl) ?_
      refine lv_bipush (v := (12 : Int32)) hx hb dX0_hasGiven_3 (by decide) ?_
      refine lv_icmp_ge (tgt := 26) hx hb dX0_hasGiven_5 (by decide) (fun c1 => ?_) (fun c1 => ?_)
      · replace hf := mT1 c1 hf
        obtain rfl := Option.some.inj hf
        exact kx _ rfl _ _ _ hw (lv_sub hl [] rfl)
      · replace hf := mF1 c1 hf
        refine lv_aload_n hx hb dX0_hasGiven_8 rfl (lv_at hl 0 rfl) ?_
        obtain ⟨h2, hf⟩ := mChk hf
        obtain ⟨x3, e4, hf⟩ := mBind hf
        refine mgr B hw flX0_22 rfl h2 e4 dX0_hasGiven_9 ?_
        refine lv_iload_n hx hb dX0_hasGiven_12 rfl (lv_at hl 2 rfl) ?_
        obtain ⟨h5, hf⟩ := mChk hf
        refine mld1 B hw h5 dX0_hasGiven_13 ?_
        refine lv_iload_n hx hb dX0_hasGiven_14 rfl (lv_at hl 1 rfl) ?_
        refine lv_icmp_ne (tgt := 20) hx hb dX0_hasGiven_15 (by decide) (fun c6 => ?_) (fun c6 => ?_)
        · replace hf := mF1 c6 hf
          refine lv_iinc (v := (v2 + (1 : Int32))) (lv' := [(2, .int (v2 + (1 : Int32))), (0, .ref (g.2.1 v0)), (1, .int v1)]) hx hb dX0_hasGiven_20 hl (k := 2) rfl rfl (by decide) rfl (fun ls hl => ?_)
          refine lv_goto (tgt := 2) hx hb dX0_hasGiven_23 (by decide) ?_
          exact ih v0 v1 (v2 + (1 : Int32)) z _ _ _ hf hw (lv_sub hl [1, 2, 0] rfl) kx ko
        · replace hf := mT1 c6 hf
          refine lv_iconst (v := (1 : Int32)) hx hb dX0_hasGiven_18 (by decide) ?_
          rw [hQm, ← ko _ (Option.some.inj hf).symm]
          exact mrz (v := true) hx hb hr hlk hw dX0_hasGiven_19
  refine lv_iconst (v := (0 : Int32)) hx hb dX0_hasGiven_0 (by decide) ?_
  refine lv_istore_n (lv' := [(2, .int (0 : Int32)), (0, .ref (g.2.1 a0)), (1, .int a1)]) hx hb dX0_hasGiven_1 rfl hl (by decide) rfl (fun ls hl => ?_)
  obtain ⟨z7, e8, hf⟩ := mBind hf
  refine L2 8192 a0 a1 (0 : Int32) z7 _ _ _ e8 hw (lv_sub hl [1, 2, 0] rfl) (fun w9 hw9 H locs ls hw hl => ?_) (fun o ho => ?_)
  · subst hw9
    replace hf := mInr hf
    refine lv_iconst (v := (0 : Int32)) hx hb dX0_hasGiven_26 (by decide) ?_
    rw [hQm, ← Option.some.inj hf]
    exact mrz (v := false) hx hb hr hlk hw dX0_hasGiven_27
  · subst ho
    exact Option.some.inj (mInl hf)
def f_X8_within (K : mK) (a0 : Int32) (a1 : Int32) (a2 : Int32) (I0 : mI) (J0 : mJ) (R0 : mR) : Option Bool :=
  if a0 < a1 then
  some false
  else
  if a2 < a0 then
  some false
  else
  some true
set_option maxHeartbeats 4000000 in
set_option maxRecDepth 100000 in
theorem r_X8_within (l : Launch) (g : mG) (K : mK) (n : Nat) (hJ : mInj g n) (hO : mOk K n) (a0 : Int32) (a1 : Int32) (a2 : Int32) (I0 : mI) (J0 : mJ) (R0 : mR) (out : Bool) (hf : f_X8_within K a0 a1 a2 I0 J0 R0 = some out) : Met l yX8_within (mWs yX8_within cX8_within 3 (some .boolean)) ({ frames := 0, cells := 0, slots := 0, locals := 0 }) (va_Pc [.int a0, .int a1, .int a2] (mB g K n I0 J0 R0)) (mQ g K n (some (.int (mb out))) I0 J0 R0) 0 0 (mA g n) := by
  unfold f_X8_within at hf
  refine mStart RX8 hJ hO (by decide) rfl (Nat.le_of_ble_eq_true rfl) ?_
  intro p e s m below meth c ls Qm hQm B hr hlk hw hl
  have hx := B.1.1
  have hb := B.1.2.1
  have hl : lv_has ls 3 [(0, .int a0), (1, .int a1), (2, .int a2)] := hl
  refine lv_iload_n hx hb dX8_within_0 rfl (lv_at hl 0 rfl) ?_
  refine lv_iload_n hx hb dX8_within_1 rfl (lv_at hl 1 rfl) ?_
  refine lv_icmp_lt (tgt := 14) hx hb dX8_within_2 (by decide) (fun c1 => ?_) (fun c1 => ?_)
  · replace hf := mT1 c1 hf
    refine lv_iconst (v := (0 : Int32)) hx hb dX8_within_14 (by decide) ?_
    rw [hQm, ← Option.some.inj hf]
    exact mrz (v := false) hx hb hr hlk hw dX8_within_15
  · replace hf := mF1 c1 hf
    refine lv_iload_n hx hb dX8_within_5 rfl (lv_at hl 0 rfl) ?_
    refine lv_iload_n hx hb dX8_within_6 rfl (lv_at hl 2 rfl) ?_
    refine lv_icmp_gt (tgt := 14) hx hb dX8_within_7 (by decide) (fun c2 => ?_) (fun c2 => ?_)
    · replace hf := mT1 c2 hf
      refine lv_iconst (v := (0 : Int32)) hx hb dX8_within_14 (by decide) ?_
      rw [hQm, ← Option.some.inj hf]
      exact mrz (v := false) hx hb hr hlk hw dX8_within_15
    · replace hf := mF1 c2 hf
      refine lv_iconst (v := (1 : Int32)) hx hb dX8_within_10 (by decide) ?_
      refine lv_goto (tgt := 15) hx hb dX8_within_11 (by decide) ?_
      rw [hQm, ← Option.some.inj hf]
      exact mrz (v := true) hx hb hr hlk hw dX8_within_15
def f_X1_answer (K : mK) (a0 : Nat) (a1 : Int32) (I0 : mI) (J0 : mJ) (R0 : mR) : Option Int32 :=
  (f_X8_within K a1 (10 : Int32) (17 : Int32) I0 J0 R0).bind fun z1 =>
  if (mb z1) = 0 then
  (f_X8_within K a1 (20 : Int32) (23 : Int32) I0 J0 R0).bind fun z4 =>
  if (mb z4) = 0 then
  (f_X8_within K a1 (30 : Int32) (32 : Int32) I0 J0 R0).bind fun z7 =>
  if (mb z7) = 0 then
  if a1 = (0 : Int32) then
  if K a0 = (0, 1) then
  some (I0 a0 0)
  else none
  else if a1 = (1 : Int32) then
  if K a0 = (0, 1) then
  some (I0 a0 1)
  else none
  else if a1 = (2 : Int32) then
  if K a0 = (0, 1) then
  some (I0 a0 2)
  else none
  else if a1 = (3 : Int32) then
  if K a0 = (0, 1) then
  some (I0 a0 3)
  else none
  else some (-1 : Int32)
  else
  if K a0 = (0, 1) then
  (R0 a0 6).bind fun x15 =>
  if mIx K x15 1 (a1 - (30 : Int32)) then
  some (I0 x15 ((a1 - (30 : Int32))).toNatClampNeg)
  else none
  else none
  else
  if K a0 = (0, 1) then
  (R0 a0 5).bind fun x19 =>
  if mIx K x19 1 (a1 - (20 : Int32)) then
  some (I0 x19 ((a1 - (20 : Int32))).toNatClampNeg)
  else none
  else none
  else
  if K a0 = (0, 1) then
  (R0 a0 4).bind fun x23 =>
  if mIx K x23 1 (a1 - (10 : Int32)) then
  some (I0 x23 ((a1 - (10 : Int32))).toNatClampNeg)
  else none
  else none
set_option maxHeartbeats 4000000 in
set_option maxRecDepth 100000 in
theorem r_X1_answer (l : Launch) (g : mG) (K : mK) (n : Nat) (hJ : mInj g n) (hO : mOk K n) (a0 : Nat) (a1 : Int32) (I0 : mI) (J0 : mJ) (R0 : mR) (out : Int32) (hf : f_X1_answer K a0 a1 I0 J0 R0 = some out) : Met l yX1_answer (mWs yX1_answer cX1_answer 2 (some .int)) ({ frames := 1, cells := 0, slots := 0, locals := 22 }) (va_Pc [.ref (g.2.1 a0), .int a1] (mB g K n I0 J0 R0)) (mQ g K n (some (.int out)) I0 J0 R0) 0 0 (mA g n) := by
  unfold f_X1_answer at hf
  refine mStart RX1 hJ hO (by decide) rfl (Nat.le_of_ble_eq_true rfl) ?_
  intro p e s m below meth c ls Qm hQm B hr hlk hw hl
  have hx := B.1.1
  have hb := B.1.2.1
  have hl : lv_has ls 2 [(0, .ref (g.2.1 a0)), (1, .int a1)] := hl
  refine lv_iload_n hx hb dX1_answer_0 rfl (lv_at hl 1 rfl) ?_
  refine lv_bipush (v := (10 : Int32)) hx hb dX1_answer_1 (by decide) ?_
  refine lv_bipush (v := (17 : Int32)) hx hb dX1_answer_3 (by decide) ?_
  obtain ⟨z1, e2, hf⟩ := mBind hf
  refine mcallN (rest := []) B hw [.int a1, .int (10 : Int32), .int (17 : Int32)] clX1_54 (r_X8_within l g K n hJ hO a1 (10 : Int32) (17 : Int32) I0 J0 R0 z1 e2) ⟨rfl, rfl, Nat.le_of_ble_eq_true rfl, Nat.le_of_ble_eq_true rfl⟩ rfl hl.1 (Nat.le_of_ble_eq_true rfl) ⟨Nat.zero_le _, Nat.zero_le _⟩ dX1_answer_5 (fun H locs hw => ?_)
  refine W.eq (g2 := F0 m 8 ls [.int (mb z1)]) rfl ?_
  refine lv_if_eq (tgt := 21) hx hb dX1_answer_8 (by decide) (fun c3 => ?_) (fun c3 => ?_)
  · replace hf := mT1 c3 hf
    refine lv_iload_n hx hb dX1_answer_21 rfl (lv_at hl 1 rfl) ?_
    refine lv_bipush (v := (20 : Int32)) hx hb dX1_answer_22 (by decide) ?_
    refine lv_bipush (v := (23 : Int32)) hx hb dX1_answer_24 (by decide) ?_
    obtain ⟨z4, e5, hf⟩ := mBind hf
    refine mcallN (rest := []) B hw [.int a1, .int (20 : Int32), .int (23 : Int32)] clX1_54 (r_X8_within l g K n hJ hO a1 (20 : Int32) (23 : Int32) I0 J0 R0 z4 e5) ⟨rfl, rfl, Nat.le_of_ble_eq_true rfl, Nat.le_of_ble_eq_true rfl⟩ rfl hl.1 (Nat.le_of_ble_eq_true rfl) ⟨Nat.zero_le _, Nat.zero_le _⟩ dX1_answer_26 (fun H locs hw => ?_)
    refine W.eq (g2 := F0 m 29 ls [.int (mb z4)]) rfl ?_
    refine lv_if_eq (tgt := 42) hx hb dX1_answer_29 (by decide) (fun c6 => ?_) (fun c6 => ?_)
    · replace hf := mT1 c6 hf
      refine lv_iload_n hx hb dX1_answer_42 rfl (lv_at hl 1 rfl) ?_
      refine lv_bipush (v := (30 : Int32)) hx hb dX1_answer_43 (by decide) ?_
      refine lv_bipush (v := (32 : Int32)) hx hb dX1_answer_45 (by decide) ?_
      obtain ⟨z7, e8, hf⟩ := mBind hf
      refine mcallN (rest := []) B hw [.int a1, .int (30 : Int32), .int (32 : Int32)] clX1_54 (r_X8_within l g K n hJ hO a1 (30 : Int32) (32 : Int32) I0 J0 R0 z7 e8) ⟨rfl, rfl, Nat.le_of_ble_eq_true rfl, Nat.le_of_ble_eq_true rfl⟩ rfl hl.1 (Nat.le_of_ble_eq_true rfl) ⟨Nat.zero_le _, Nat.zero_le _⟩ dX1_answer_47 (fun H locs hw => ?_)
      refine W.eq (g2 := F0 m 50 ls [.int (mb z7)]) rfl ?_
      refine lv_if_eq (tgt := 63) hx hb dX1_answer_50 (by decide) (fun c9 => ?_) (fun c9 => ?_)
      · replace hf := mT1 c9 hf
        refine lv_iload_n hx hb dX1_answer_63 rfl (lv_at hl 1 rfl) ?_
        by_cases k0 : a1 = (0 : Int32)
        · replace hf := mT1 k0 hf
          refine lv_tableIn (off := 32) (tgt := 96) hx hb dX1_answer_64 (by rw [k0]; decide) (by rw [k0]; decide) (by rw [k0]; rfl) (by decide) ?_
          refine lv_aload_n hx hb dX1_answer_96 rfl (lv_at hl 0 rfl) ?_
          obtain ⟨h10, hf⟩ := mChk hf
          refine mgi B hw flX1_28 rfl h10 dX1_answer_97 ?_
          rw [hQm, ← Option.some.inj hf]
          exact mri hx hb hr hlk hw dX1_answer_100
        replace hf := mF1 k0 hf
        by_cases k1 : a1 = (1 : Int32)
        · replace hf := mT1 k1 hf
          refine lv_tableIn (off := 37) (tgt := 101) hx hb dX1_answer_64 (by rw [k1]; decide) (by rw [k1]; decide) (by rw [k1]; rfl) (by decide) ?_
          refine lv_aload_n hx hb dX1_answer_101 rfl (lv_at hl 0 rfl) ?_
          obtain ⟨h11, hf⟩ := mChk hf
          refine mgi B hw flX1_31 rfl h11 dX1_answer_102 ?_
          rw [hQm, ← Option.some.inj hf]
          exact mri hx hb hr hlk hw dX1_answer_105
        replace hf := mF1 k1 hf
        by_cases k2 : a1 = (2 : Int32)
        · replace hf := mT1 k2 hf
          refine lv_tableIn (off := 42) (tgt := 106) hx hb dX1_answer_64 (by rw [k2]; decide) (by rw [k2]; decide) (by rw [k2]; rfl) (by decide) ?_
          refine lv_aload_n hx hb dX1_answer_106 rfl (lv_at hl 0 rfl) ?_
          obtain ⟨h12, hf⟩ := mChk hf
          refine mgi B hw flX1_9 rfl h12 dX1_answer_107 ?_
          rw [hQm, ← Option.some.inj hf]
          exact mri hx hb hr hlk hw dX1_answer_110
        replace hf := mF1 k2 hf
        by_cases k3 : a1 = (3 : Int32)
        · replace hf := mT1 k3 hf
          refine lv_tableIn (off := 47) (tgt := 111) hx hb dX1_answer_64 (by rw [k3]; decide) (by rw [k3]; decide) (by rw [k3]; rfl) (by decide) ?_
          refine lv_aload_n hx hb dX1_answer_111 rfl (lv_at hl 0 rfl) ?_
          obtain ⟨h13, hf⟩ := mChk hf
          refine mgi B hw flX1_34 rfl h13 dX1_answer_112 ?_
          rw [hQm, ← Option.some.inj hf]
          exact mri hx hb hr hlk hw dX1_answer_115
        replace hf := mF1 k3 hf
        refine lv_tableOut (tgt := 116) hx hb dX1_answer_64 (mSwOut 3 (by decide) (fun k hk => by
          match k, hk with
          | 0, _ => exact k0
          | 1, _ => exact k1
          | 2, _ => exact k2
          | 3, _ => exact k3
          | k + 4, h => exact absurd h (by omega))) (by decide) ?_
        refine lv_iconst (v := (-1 : Int32)) hx hb dX1_answer_116 (by decide) ?_
        rw [hQm, ← Option.some.inj hf]
        exact mri hx hb hr hlk hw dX1_answer_117
      · replace hf := mF1 c9 hf
        refine lv_aload_n hx hb dX1_answer_53 rfl (lv_at hl 0 rfl) ?_
        obtain ⟨h14, hf⟩ := mChk hf
        obtain ⟨x15, e16, hf⟩ := mBind hf
        refine mgr B hw flX1_22 rfl h14 e16 dX1_answer_54 ?_
        refine lv_iload_n hx hb dX1_answer_57 rfl (lv_at hl 1 rfl) ?_
        refine lv_bipush (v := (30 : Int32)) hx hb dX1_answer_58 (by decide) ?_
        refine lv_isub hx hb dX1_answer_60 ?_
        obtain ⟨h17, hf⟩ := mChk hf
        refine mld1 B hw h17 dX1_answer_61 ?_
        rw [hQm, ← Option.some.inj hf]
        exact mri hx hb hr hlk hw dX1_answer_62
    · replace hf := mF1 c6 hf
      refine lv_aload_n hx hb dX1_answer_32 rfl (lv_at hl 0 rfl) ?_
      obtain ⟨h18, hf⟩ := mChk hf
      obtain ⟨x19, e20, hf⟩ := mBind hf
      refine mgr B hw flX1_19 rfl h18 e20 dX1_answer_33 ?_
      refine lv_iload_n hx hb dX1_answer_36 rfl (lv_at hl 1 rfl) ?_
      refine lv_bipush (v := (20 : Int32)) hx hb dX1_answer_37 (by decide) ?_
      refine lv_isub hx hb dX1_answer_39 ?_
      obtain ⟨h21, hf⟩ := mChk hf
      refine mld1 B hw h21 dX1_answer_40 ?_
      rw [hQm, ← Option.some.inj hf]
      exact mri hx hb hr hlk hw dX1_answer_41
  · replace hf := mF1 c3 hf
    refine lv_aload_n hx hb dX1_answer_11 rfl (lv_at hl 0 rfl) ?_
    obtain ⟨h22, hf⟩ := mChk hf
    obtain ⟨x23, e24, hf⟩ := mBind hf
    refine mgr B hw flX1_15 rfl h22 e24 dX1_answer_12 ?_
    refine lv_iload_n hx hb dX1_answer_15 rfl (lv_at hl 1 rfl) ?_
    refine lv_bipush (v := (10 : Int32)) hx hb dX1_answer_16 (by decide) ?_
    refine lv_isub hx hb dX1_answer_18 ?_
    obtain ⟨h25, hf⟩ := mChk hf
    refine mld1 B hw h25 dX1_answer_19 ?_
    rw [hQm, ← Option.some.inj hf]
    exact mri hx hb hr hlk hw dX1_answer_20
def f_X1_sexUnlike (K : mK) (a0 : Nat) (a1 : Nat) (I0 : mI) (J0 : mJ) (R0 : mR) : Option Bool :=
  if K a0 = (0, 1) then
  if (I0 a0 0) = 0 then
  some false
  else
  if K a1 = (0, 1) then
  if (I0 a1 0) = 0 then
  some false
  else
  if (I0 a0 0) = (I0 a1 0) then
  some false
  else
  some true
  else none
  else none
set_option maxHeartbeats 4000000 in
set_option maxRecDepth 100000 in
theorem r_X1_sexUnlike (l : Launch) (g : mG) (K : mK) (n : Nat) (hJ : mInj g n) (hO : mOk K n) (a0 : Nat) (a1 : Nat) (I0 : mI) (J0 : mJ) (R0 : mR) (out : Bool) (hf : f_X1_sexUnlike K a0 a1 I0 J0 R0 = some out) : Met l yX1_sexUnlike (mWs yX1_sexUnlike cX1_sexUnlike 2 (some .boolean)) ({ frames := 0, cells := 0, slots := 0, locals := 0 }) (va_Pc [.ref (g.2.1 a0), .ref (g.2.1 a1)] (mB g K n I0 J0 R0)) (mQ g K n (some (.int (mb out))) I0 J0 R0) 0 0 (mA g n) := by
  unfold f_X1_sexUnlike at hf
  refine mStart RX1 hJ hO (by decide) rfl (Nat.le_of_ble_eq_true rfl) ?_
  intro p e s m below meth c ls Qm hQm B hr hlk hw hl
  have hx := B.1.1
  have hb := B.1.2.1
  have hl : lv_has ls 2 [(0, .ref (g.2.1 a0)), (1, .ref (g.2.1 a1))] := hl
  refine lv_aload_n hx hb dX1_sexUnlike_0 rfl (lv_at hl 0 rfl) ?_
  obtain ⟨h1, hf⟩ := mChk hf
  refine mgi B hw flX1_28 rfl h1 dX1_sexUnlike_1 ?_
  refine lv_if_eq (tgt := 29) hx hb dX1_sexUnlike_4 (by decide) (fun c2 => ?_) (fun c2 => ?_)
  · replace hf := mT1 c2 hf
    refine lv_iconst (v := (0 : Int32)) hx hb dX1_sexUnlike_29 (by decide) ?_
    rw [hQm, ← Option.some.inj hf]
    exact mrz (v := false) hx hb hr hlk hw dX1_sexUnlike_30
  · replace hf := mF1 c2 hf
    refine lv_aload_n hx hb dX1_sexUnlike_7 rfl (lv_at hl 1 rfl) ?_
    obtain ⟨h3, hf⟩ := mChk hf
    refine mgi B hw flX1_28 rfl h3 dX1_sexUnlike_8 ?_
    refine lv_if_eq (tgt := 29) hx hb dX1_sexUnlike_11 (by decide) (fun c4 => ?_) (fun c4 => ?_)
    · replace hf := mT1 c4 hf
      refine lv_iconst (v := (0 : Int32)) hx hb dX1_sexUnlike_29 (by decide) ?_
      rw [hQm, ← Option.some.inj hf]
      exact mrz (v := false) hx hb hr hlk hw dX1_sexUnlike_30
    · replace hf := mF1 c4 hf
      refine lv_aload_n hx hb dX1_sexUnlike_14 rfl (lv_at hl 0 rfl) ?_
      refine mgi B hw flX1_28 rfl h1 dX1_sexUnlike_15 ?_
      refine lv_aload_n hx hb dX1_sexUnlike_18 rfl (lv_at hl 1 rfl) ?_
      refine mgi B hw flX1_28 rfl h3 dX1_sexUnlike_19 ?_
      refine lv_icmp_eq (tgt := 29) hx hb dX1_sexUnlike_22 (by decide) (fun c5 => ?_) (fun c5 => ?_)
      · replace hf := mT1 c5 hf
        refine lv_iconst (v := (0 : Int32)) hx hb dX1_sexUnlike_29 (by decide) ?_
        rw [hQm, ← Option.some.inj hf]
        exact mrz (v := false) hx hb hr hlk hw dX1_sexUnlike_30
      · replace hf := mF1 c5 hf
        refine lv_iconst (v := (1 : Int32)) hx hb dX1_sexUnlike_25 (by decide) ?_
        refine lv_goto (tgt := 30) hx hb dX1_sexUnlike_26 (by decide) ?_
        rw [hQm, ← Option.some.inj hf]
        exact mrz (v := true) hx hb hr hlk hw dX1_sexUnlike_30
def f_X1_ageMeets (K : mK) (a0 : Nat) (a1 : Nat) (I0 : mI) (J0 : mJ) (R0 : mR) : Option Bool :=
  if K a0 = (0, 1) then
  if K a1 = (0, 1) then
  if (imin (I0 a0 2) (I0 a1 2)) < (imax (I0 a0 1) (I0 a1 1)) then
  some false
  else
  some true
  else none
  else none
set_option maxHeartbeats 4000000 in
set_option maxRecDepth 100000 in
theorem r_X1_ageMeets (l : Launch) (g : mG) (K : mK) (n : Nat) (hJ : mInj g n) (hO : mOk K n) (a0 : Nat) (a1 : Nat) (I0 : mI) (J0 : mJ) (R0 : mR) (out : Bool) (hf : f_X1_ageMeets K a0 a1 I0 J0 R0 = some out) : Met l yX1_ageMeets (mWs yX1_ageMeets cX1_ageMeets 2 (some .boolean)) ({ frames := 1, cells := 0, slots := 0, locals := 21 }) (va_Pc [.ref (g.2.1 a0), .ref (g.2.1 a1)] (mB g K n I0 J0 R0)) (mQ g K n (some (.int (mb out))) I0 J0 R0) 0 0 (mA g n) := by
  unfold f_X1_ageMeets at hf
  refine mStart RX1 hJ hO (by decide) rfl (Nat.le_of_ble_eq_true rfl) ?_
  intro p e s m below meth c ls Qm hQm B hr hlk hw hl
  have hx := B.1.1
  have hb := B.1.2.1
  have hl : lv_has ls 2 [(0, .ref (g.2.1 a0)), (1, .ref (g.2.1 a1))] := hl
  refine lv_aload_n hx hb dX1_ageMeets_0 rfl (lv_at hl 0 rfl) ?_
  obtain ⟨h1, hf⟩ := mChk hf
  refine mgi B hw flX1_31 rfl h1 dX1_ageMeets_1 ?_
  refine lv_aload_n hx hb dX1_ageMeets_4 rfl (lv_at hl 1 rfl) ?_
  obtain ⟨h2, hf⟩ := mChk hf
  refine mgi B hw flX1_31 rfl h2 dX1_ageMeets_5 ?_
  refine mmmax B hl.1 mhX1_41 (Nat.le_of_ble_eq_true rfl) (Nat.le_of_ble_eq_true rfl) (Nat.zero_le _) (Nat.zero_le _) dX1_ageMeets_8 ?_
  refine lv_aload_n hx hb dX1_ageMeets_11 rfl (lv_at hl 0 rfl) ?_
  refine mgi B hw flX1_9 rfl h1 dX1_ageMeets_12 ?_
  refine lv_aload_n hx hb dX1_ageMeets_15 rfl (lv_at hl 1 rfl) ?_
  refine mgi B hw flX1_9 rfl h2 dX1_ageMeets_16 ?_
  refine mmmin B hl.1 mhX1_47 (Nat.le_of_ble_eq_true rfl) (Nat.le_of_ble_eq_true rfl) (Nat.zero_le _) (Nat.zero_le _) dX1_ageMeets_19 ?_
  refine lv_icmp_gt (tgt := 29) hx hb dX1_ageMeets_22 (by decide) (fun c3 => ?_) (fun c3 => ?_)
  · replace hf := mT1 c3 hf
    refine lv_iconst (v := (0 : Int32)) hx hb dX1_ageMeets_29 (by decide) ?_
    rw [hQm, ← Option.some.inj hf]
    exact mrz (v := false) hx hb hr hlk hw dX1_ageMeets_30
  · replace hf := mF1 c3 hf
    refine lv_iconst (v := (1 : Int32)) hx hb dX1_ageMeets_25 (by decide) ?_
    refine lv_goto (tgt := 30) hx hb dX1_ageMeets_26 (by decide) ?_
    rw [hQm, ← Option.some.inj hf]
    exact mrz (v := true) hx hb hr hlk hw dX1_ageMeets_30
def f_X1_toothCameBack_L2 (K : mK) (v0 : Nat) (v1 : Nat) (I0 : mI) (J0 : mJ) (R0 : mR) : Nat → Int32 → Option (Bool ⊕ Unit)
  | 0, _ => none
  | N + 1, v2 =>
  if (8 : Int32) ≤ v2 then
  some (Sum.inr ())
  else
  if K v0 = (0, 1) then
  (R0 v0 4).bind fun x3 =>
  if mIx K x3 1 v2 then
  if (I0 x3 (v2).toNatClampNeg) = 0 then
  f_X1_toothCameBack_L2 K v0 v1 I0 J0 R0 N (v2 + (1 : Int32))
  else
  if K v1 = (0, 1) then
  (R0 v1 4).bind fun x8 =>
  if mIx K x8 1 v2 then
  if (I0 x8 (v2).toNatClampNeg) ≤ (I0 x3 (v2).toNatClampNeg) then
  f_X1_toothCameBack_L2 K v0 v1 I0 J0 R0 N (v2 + (1 : Int32))
  else
  some (Sum.inl true)
  else none
  else none
  else none
  else none
def f_X1_toothCameBack (K : mK) (a0 : Nat) (a1 : Nat) (I0 : mI) (J0 : mJ) (R0 : mR) : Option Bool :=
  (f_X1_toothCameBack_L2 K a0 a1 I0 J0 R0 8192 (0 : Int32)).bind fun z12 => Sum.elim (fun o => some o) (fun w14 =>
  some false) z12
set_option maxHeartbeats 4000000 in
set_option maxRecDepth 100000 in
theorem r_X1_toothCameBack (l : Launch) (g : mG) (K : mK) (n : Nat) (hJ : mInj g n) (hO : mOk K n) (a0 : Nat) (a1 : Nat) (I0 : mI) (J0 : mJ) (R0 : mR) (out : Bool) (hf : f_X1_toothCameBack K a0 a1 I0 J0 R0 = some out) : Met l yX1_toothCameBack (mWs yX1_toothCameBack cX1_toothCameBack 3 (some .boolean)) ({ frames := 0, cells := 0, slots := 0, locals := 0 }) (va_Pc [.ref (g.2.1 a0), .ref (g.2.1 a1)] (mB g K n I0 J0 R0)) (mQ g K n (some (.int (mb out))) I0 J0 R0) 0 0 (mA g n) := by
  unfold f_X1_toothCameBack at hf
  refine mStart RX1 hJ hO (by decide) rfl (Nat.le_of_ble_eq_true rfl) ?_
  intro p e s m below meth c ls Qm hQm B hr hlk hw hl
  have hx := B.1.1
  have hb := B.1.2.1
  have hl : lv_has ls 3 [(0, .ref (g.2.1 a0)), (1, .ref (g.2.1 a1))] := hl
  have L2 : ∀ (N : Nat) (v0 : Nat) (v1 : Nat) (v2 : Int32) (z : (Bool ⊕ Unit)) (H : Heap) (locs : List Loc) (ls : Array Slot), f_X1_toothCameBack_L2 K v0 v1 I0 J0 R0 N v2 = some z → mHp g K n s I0 J0 R0 H locs → lv_has ls 3 [(0, .ref (g.2.1 v0)), (1, .ref (g.2.1 v1)), (2, .int v2)] → (∀ w, z = Sum.inr w → (∀ (H : Heap) (locs : List Loc) (ls : Array Slot), mHp g K n s I0 J0 R0 H locs → lv_has ls 3 [] → W p l e ({ frames := 0, cells := 0, slots := 0, locals := 0 } : Room) s m ([.ref (g.2.1 a0), .ref (g.2.1 a1)] : List Value).toArray below meth c H locs 0 0 Qm (F0 m 40 ls []))) → (∀ o, z = Sum.inl o → o = out) → W p l e ({ frames := 0, cells := 0, slots := 0, locals := 0 } : Room) s m ([.ref (g.2.1 a0), .ref (g.2.1 a1)] : List Value).toArray below meth c H locs 0 0 Qm (F0 m 2 ls []) := by
    intro N
    induction N with
    | zero =>
      intro v0 v1 v2  z H locs ls hf hw hl kx ko
      rw [f_X1_toothCameBack_L2] at hf
      cases hf
    | succ N ih =>
      intro v0 v1 v2  z H locs ls hf hw hl kx ko
      rw [f_X1_toothCameBack_L2] at hf
      refine lv_iload_n hx hb dX1_toothCameBack_2 rfl (lv_at hl 2 rfl) ?_
      refine lv_bipush (v := (8 : Int32)) hx hb dX1_toothCameBack_3 (by decide) ?_
      refine lv_icmp_ge (tgt := 40) hx hb dX1_toothCameBack_5 (by decide) (fun c1 => ?_) (fun c1 => ?_)
      · replace hf := mT1 c1 hf
        obtain rfl := Option.some.inj hf
        exact kx _ rfl _ _ _ hw (lv_sub hl [] rfl)
      · replace hf := mF1 c1 hf
        refine lv_aload_n hx hb dX1_toothCameBack_8 rfl (lv_at hl 0 rfl) ?_
        obtain ⟨h2, hf⟩ := mChk hf
        obtain ⟨x3, e4, hf⟩ := mBind hf
        refine mgr B hw flX1_15 rfl h2 e4 dX1_toothCameBack_9 ?_
        refine lv_iload_n hx hb dX1_toothCameBack_12 rfl (lv_at hl 2 rfl) ?_
        obtain ⟨h5, hf⟩ := mChk hf
        refine mld1 B hw h5 dX1_toothCameBack_13 ?_
        refine lv_if_eq (tgt := 34) hx hb dX1_toothCameBack_14 (by decide) (fun c6 => ?_) (fun c6 => ?_)
        · replace hf := mT1 c6 hf
          refine lv_iinc (v := (v2 + (1 : Int32))) (lv' := [(2, .int (v2 + (1 : Int32))), (0, .ref (g.2.1 v0)), (1, .ref (g.2.1 v1))]) hx hb dX1_toothCameBack_34 hl (k := 2) rfl rfl (by decide) rfl (fun ls hl => ?_)
          refine lv_goto (tgt := 2) hx hb dX1_toothCameBack_37 (by decide) ?_
          exact ih v0 v1 (v2 + (1 : Int32)) z _ _ _ hf hw (lv_sub hl [1, 2, 0] rfl) kx ko
        · replace hf := mF1 c6 hf
          refine lv_aload_n hx hb dX1_toothCameBack_17 rfl (lv_at hl 0 rfl) ?_
          refine mgr B hw flX1_15 rfl h2 e4 dX1_toothCameBack_18 ?_
          refine lv_iload_n hx hb dX1_toothCameBack_21 rfl (lv_at hl 2 rfl) ?_
          refine mld1 B hw h5 dX1_toothCameBack_22 ?_
          refine lv_aload_n hx hb dX1_toothCameBack_23 rfl (lv_at hl 1 rfl) ?_
          obtain ⟨h7, hf⟩ := mChk hf
          obtain ⟨x8, e9, hf⟩ := mBind hf
          refine mgr B hw flX1_15 rfl h7 e9 dX1_toothCameBack_24 ?_
          refine lv_iload_n hx hb dX1_toothCameBack_27 rfl (lv_at hl 2 rfl) ?_
          obtain ⟨h10, hf⟩ := mChk hf
          refine mld1 B hw h10 dX1_toothCameBack_28 ?_
          refine lv_icmp_ge (tgt := 34) hx hb dX1_toothCameBack_29 (by decide) (fun c11 => ?_) (fun c11 => ?_)
          · replace hf := mT1 c11 hf
            refine lv_iinc (v := (v2 + (1 : Int32))) (lv' := [(2, .int (v2 + (1 : Int32))), (0, .ref (g.2.1 v0)), (1, .ref (g.2.1 v1))]) hx hb dX1_toothCameBack_34 hl (k := 2) rfl rfl (by decide) rfl (fun ls hl => ?_)
            refine lv_goto (tgt := 2) hx hb dX1_toothCameBack_37 (by decide) ?_
            exact ih v0 v1 (v2 + (1 : Int32)) z _ _ _ hf hw (lv_sub hl [1, 2, 0] rfl) kx ko
          · replace hf := mF1 c11 hf
            refine lv_iconst (v := (1 : Int32)) hx hb dX1_toothCameBack_32 (by decide) ?_
            rw [hQm, ← ko _ (Option.some.inj hf).symm]
            exact mrz (v := true) hx hb hr hlk hw dX1_toothCameBack_33
  refine lv_iconst (v := (0 : Int32)) hx hb dX1_toothCameBack_0 (by decide) ?_
  refine lv_istore_n (lv' := [(2, .int (0 : Int32)), (0, .ref (g.2.1 a0)), (1, .ref (g.2.1 a1))]) hx hb dX1_toothCameBack_1 rfl hl (by decide) rfl (fun ls hl => ?_)
  obtain ⟨z12, e13, hf⟩ := mBind hf
  refine L2 8192 a0 a1 (0 : Int32) z12 _ _ _ e13 hw (lv_sub hl [1, 2, 0] rfl) (fun w14 hw9 H locs ls hw hl => ?_) (fun o ho => ?_)
  · subst hw9
    replace hf := mInr hf
    refine lv_iconst (v := (0 : Int32)) hx hb dX1_toothCameBack_40 (by decide) ?_
    rw [hQm, ← Option.some.inj hf]
    exact mrz (v := false) hx hb hr hlk hw dX1_toothCameBack_41
  · subst ho
    exact Option.some.inj (mInl hf)
def f_X1_sheetUnlike_L2 (K : mK) (v0 : Nat) (v1 : Nat) (I0 : mI) (J0 : mJ) (R0 : mR) : Nat → Int32 → Option (Bool ⊕ Unit)
  | 0, _ => none
  | N + 1, v2 =>
  if (3 : Int32) ≤ v2 then
  some (Sum.inr ())
  else
  if K v0 = (0, 1) then
  (R0 v0 6).bind fun x3 =>
  if mIx K x3 1 v2 then
  if K v1 = (0, 1) then
  (R0 v1 6).bind fun x7 =>
  if mIx K x7 1 v2 then
  if (I0 x3 (v2).toNatClampNeg) = 0 then
  f_X1_sheetUnlike_L2 K v0 v1 I0 J0 R0 N (v2 + (1 : Int32))
  else
  if (I0 x7 (v2).toNatClampNeg) = 0 then
  f_X1_sheetUnlike_L2 K v0 v1 I0 J0 R0 N (v2 + (1 : Int32))
  else
  if (I0 x3 (v2).toNatClampNeg) = (I0 x7 (v2).toNatClampNeg) then
  f_X1_sheetUnlike_L2 K v0 v1 I0 J0 R0 N (v2 + (1 : Int32))
  else
  some (Sum.inl true)
  else none
  else none
  else none
  else none
def f_X1_sheetUnlike (K : mK) (a0 : Nat) (a1 : Nat) (I0 : mI) (J0 : mJ) (R0 : mR) : Option Bool :=
  (f_X1_sheetUnlike_L2 K a0 a1 I0 J0 R0 8192 (0 : Int32)).bind fun z13 => Sum.elim (fun o => some o) (fun w15 =>
  some false) z13
set_option maxHeartbeats 4000000 in
set_option maxRecDepth 100000 in
theorem r_X1_sheetUnlike (l : Launch) (g : mG) (K : mK) (n : Nat) (hJ : mInj g n) (hO : mOk K n) (a0 : Nat) (a1 : Nat) (I0 : mI) (J0 : mJ) (R0 : mR) (out : Bool) (hf : f_X1_sheetUnlike K a0 a1 I0 J0 R0 = some out) : Met l yX1_sheetUnlike (mWs yX1_sheetUnlike cX1_sheetUnlike 5 (some .boolean)) ({ frames := 0, cells := 0, slots := 0, locals := 0 }) (va_Pc [.ref (g.2.1 a0), .ref (g.2.1 a1)] (mB g K n I0 J0 R0)) (mQ g K n (some (.int (mb out))) I0 J0 R0) 0 0 (mA g n) := by
  unfold f_X1_sheetUnlike at hf
  refine mStart RX1 hJ hO (by decide) rfl (Nat.le_of_ble_eq_true rfl) ?_
  intro p e s m below meth c ls Qm hQm B hr hlk hw hl
  have hx := B.1.1
  have hb := B.1.2.1
  have hl : lv_has ls 5 [(0, .ref (g.2.1 a0)), (1, .ref (g.2.1 a1))] := hl
  have L2 : ∀ (N : Nat) (v0 : Nat) (v1 : Nat) (v2 : Int32) (z : (Bool ⊕ Unit)) (H : Heap) (locs : List Loc) (ls : Array Slot), f_X1_sheetUnlike_L2 K v0 v1 I0 J0 R0 N v2 = some z → mHp g K n s I0 J0 R0 H locs → lv_has ls 5 [(0, .ref (g.2.1 v0)), (1, .ref (g.2.1 v1)), (2, .int v2)] → (∀ w, z = Sum.inr w → (∀ (H : Heap) (locs : List Loc) (ls : Array Slot), mHp g K n s I0 J0 R0 H locs → lv_has ls 5 [] → W p l e ({ frames := 0, cells := 0, slots := 0, locals := 0 } : Room) s m ([.ref (g.2.1 a0), .ref (g.2.1 a1)] : List Value).toArray below meth c H locs 0 0 Qm (F0 m 45 ls []))) → (∀ o, z = Sum.inl o → o = out) → W p l e ({ frames := 0, cells := 0, slots := 0, locals := 0 } : Room) s m ([.ref (g.2.1 a0), .ref (g.2.1 a1)] : List Value).toArray below meth c H locs 0 0 Qm (F0 m 2 ls []) := by
    intro N
    induction N with
    | zero =>
      intro v0 v1 v2  z H locs ls hf hw hl kx ko
      rw [f_X1_sheetUnlike_L2] at hf
      cases hf
    | succ N ih =>
      intro v0 v1 v2  z H locs ls hf hw hl kx ko
      rw [f_X1_sheetUnlike_L2] at hf
      refine lv_iload_n hx hb dX1_sheetUnlike_2 rfl (lv_at hl 2 rfl) ?_
      refine lv_iconst (v := (3 : Int32)) hx hb dX1_sheetUnlike_3 (by decide) ?_
      refine lv_icmp_ge (tgt := 45) hx hb dX1_sheetUnlike_4 (by decide) (fun c1 => ?_) (fun c1 => ?_)
      · replace hf := mT1 c1 hf
        obtain rfl := Option.some.inj hf
        exact kx _ rfl _ _ _ hw (lv_sub hl [] rfl)
      · replace hf := mF1 c1 hf
        refine lv_aload_n hx hb dX1_sheetUnlike_7 rfl (lv_at hl 0 rfl) ?_
        obtain ⟨h2, hf⟩ := mChk hf
        obtain ⟨x3, e4, hf⟩ := mBind hf
        refine mgr B hw flX1_22 rfl h2 e4 dX1_sheetUnlike_8 ?_
        refine lv_iload_n hx hb dX1_sheetUnlike_11 rfl (lv_at hl 2 rfl) ?_
        obtain ⟨h5, hf⟩ := mChk hf
        refine mld1 B hw h5 dX1_sheetUnlike_12 ?_
        refine lv_istore_n (lv' := [(3, .int (I0 x3 (v2).toNatClampNeg)), (0, .ref (g.2.1 v0)), (1, .ref (g.2.1 v1)), (2, .int v2)]) hx hb dX1_sheetUnlike_13 rfl hl (by decide) rfl (fun ls hl => ?_)
        refine lv_aload_n hx hb dX1_sheetUnlike_14 rfl (lv_at hl 2 rfl) ?_
        obtain ⟨h6, hf⟩ := mChk hf
        obtain ⟨x7, e8, hf⟩ := mBind hf
        refine mgr B hw flX1_22 rfl h6 e8 dX1_sheetUnlike_15 ?_
        refine lv_iload_n hx hb dX1_sheetUnlike_18 rfl (lv_at hl 3 rfl) ?_
        obtain ⟨h9, hf⟩ := mChk hf
        refine mld1 B hw h9 dX1_sheetUnlike_19 ?_
        refine lv_istore (lv' := [(4, .int (I0 x7 (v2).toNatClampNeg)), (3, .int (I0 x3 (v2).toNatClampNeg)), (0, .ref (g.2.1 v0)), (1, .ref (g.2.1 v1)), (2, .int v2)]) hx hb dX1_sheetUnlike_20 hl (by decide) rfl (fun ls hl => ?_)
        refine lv_iload_n hx hb dX1_sheetUnlike_22 rfl (lv_at hl 1 rfl) ?_
        refine lv_if_eq (tgt := 39) hx hb dX1_sheetUnlike_23 (by decide) (fun c10 => ?_) (fun c10 => ?_)
        · replace hf := mT1 c10 hf
          refine lv_iinc (v := (v2 + (1 : Int32))) (lv' := [(2, .int (v2 + (1 : Int32))), (4, .int (I0 x7 (v2).toNatClampNeg)), (3, .int (I0 x3 (v2).toNatClampNeg)), (0, .ref (g.2.1 v0)), (1, .ref (g.2.1 v1))]) hx hb dX1_sheetUnlike_39 hl (k := 4) rfl rfl (by decide) rfl (fun ls hl => ?_)
          refine lv_goto (tgt := 2) hx hb dX1_sheetUnlike_42 (by decide) ?_
          exact ih v0 v1 (v2 + (1 : Int32)) z _ _ _ hf hw (lv_sub hl [3, 4, 0] rfl) kx ko
        · replace hf := mF1 c10 hf
          refine lv_iload hx hb dX1_sheetUnlike_26 (lv_at hl 0 rfl) ?_
          refine lv_if_eq (tgt := 39) hx hb dX1_sheetUnlike_28 (by decide) (fun c11 => ?_) (fun c11 => ?_)
          · replace hf := mT1 c11 hf
            refine lv_iinc (v := (v2 + (1 : Int32))) (lv' := [(2, .int (v2 + (1 : Int32))), (4, .int (I0 x7 (v2).toNatClampNeg)), (3, .int (I0 x3 (v2).toNatClampNeg)), (0, .ref (g.2.1 v0)), (1, .ref (g.2.1 v1))]) hx hb dX1_sheetUnlike_39 hl (k := 4) rfl rfl (by decide) rfl (fun ls hl => ?_)
            refine lv_goto (tgt := 2) hx hb dX1_sheetUnlike_42 (by decide) ?_
            exact ih v0 v1 (v2 + (1 : Int32)) z _ _ _ hf hw (lv_sub hl [3, 4, 0] rfl) kx ko
          · replace hf := mF1 c11 hf
            refine lv_iload_n hx hb dX1_sheetUnlike_31 rfl (lv_at hl 1 rfl) ?_
            refine lv_iload hx hb dX1_sheetUnlike_32 (lv_at hl 0 rfl) ?_
            refine lv_icmp_eq (tgt := 39) hx hb dX1_sheetUnlike_34 (by decide) (fun c12 => ?_) (fun c12 => ?_)
            · replace hf := mT1 c12 hf
              refine lv_iinc (v := (v2 + (1 : Int32))) (lv' := [(2, .int (v2 + (1 : Int32))), (4, .int (I0 x7 (v2).toNatClampNeg)), (3, .int (I0 x3 (v2).toNatClampNeg)), (0, .ref (g.2.1 v0)), (1, .ref (g.2.1 v1))]) hx hb dX1_sheetUnlike_39 hl (k := 4) rfl rfl (by decide) rfl (fun ls hl => ?_)
              refine lv_goto (tgt := 2) hx hb dX1_sheetUnlike_42 (by decide) ?_
              exact ih v0 v1 (v2 + (1 : Int32)) z _ _ _ hf hw (lv_sub hl [3, 4, 0] rfl) kx ko
            · replace hf := mF1 c12 hf
              refine lv_iconst (v := (1 : Int32)) hx hb dX1_sheetUnlike_37 (by decide) ?_
              rw [hQm, ← ko _ (Option.some.inj hf).symm]
              exact mrz (v := true) hx hb hr hlk hw dX1_sheetUnlike_38
  refine lv_iconst (v := (0 : Int32)) hx hb dX1_sheetUnlike_0 (by decide) ?_
  refine lv_istore_n (lv' := [(2, .int (0 : Int32)), (0, .ref (g.2.1 a0)), (1, .ref (g.2.1 a1))]) hx hb dX1_sheetUnlike_1 rfl hl (by decide) rfl (fun ls hl => ?_)
  obtain ⟨z13, e14, hf⟩ := mBind hf
  refine L2 8192 a0 a1 (0 : Int32) z13 _ _ _ e14 hw (lv_sub hl [1, 2, 0] rfl) (fun w15 hw9 H locs ls hw hl => ?_) (fun o ho => ?_)
  · subst hw9
    replace hf := mInr hf
    refine lv_iconst (v := (0 : Int32)) hx hb dX1_sheetUnlike_45 (by decide) ?_
    rw [hQm, ← Option.some.inj hf]
    exact mrz (v := false) hx hb hr hlk hw dX1_sheetUnlike_46
  · subst ho
    exact Option.some.inj (mInl hf)
def f_X1_has (K : mK) (a0 : Int32) (a1 : Int32) (I0 : mI) (J0 : mJ) (R0 : mR) : Option Bool :=
  if (a0 / (10 : Int32)) = a1 then
  some true
  else
  if (a0 - a0 / (10 : Int32) * (10 : Int32)) = a1 then
  some true
  else
  some false
set_option maxHeartbeats 4000000 in
set_option maxRecDepth 100000 in
theorem r_X1_has (l : Launch) (g : mG) (K : mK) (n : Nat) (hJ : mInj g n) (hO : mOk K n) (a0 : Int32) (a1 : Int32) (I0 : mI) (J0 : mJ) (R0 : mR) (out : Bool) (hf : f_X1_has K a0 a1 I0 J0 R0 = some out) : Met l yX1_has (mWs yX1_has cX1_has 2 (some .boolean)) ({ frames := 0, cells := 0, slots := 0, locals := 0 }) (va_Pc [.int a0, .int a1] (mB g K n I0 J0 R0)) (mQ g K n (some (.int (mb out))) I0 J0 R0) 0 0 (mA g n) := by
  unfold f_X1_has at hf
  refine mStart RX1 hJ hO (by decide) rfl (Nat.le_of_ble_eq_true rfl) ?_
  intro p e s m below meth c ls Qm hQm B hr hlk hw hl
  have hx := B.1.1
  have hb := B.1.2.1
  have hl : lv_has ls 2 [(0, .int a0), (1, .int a1)] := hl
  refine lv_iload_n hx hb dX1_has_0 rfl (lv_at hl 0 rfl) ?_
  refine lv_bipush (v := (10 : Int32)) hx hb dX1_has_1 (by decide) ?_
  refine lv_idiv hx hb dX1_has_3 (by decide) ?_
  refine lv_iload_n hx hb dX1_has_4 rfl (lv_at hl 1 rfl) ?_
  refine lv_icmp_eq (tgt := 16) hx hb dX1_has_5 (by decide) (fun c1 => ?_) (fun c1 => ?_)
  · replace hf := mT1 c1 hf
    refine lv_iconst (v := (1 : Int32)) hx hb dX1_has_16 (by decide) ?_
    refine lv_goto (tgt := 21) hx hb dX1_has_17 (by decide) ?_
    rw [hQm, ← Option.some.inj hf]
    exact mrz (v := true) hx hb hr hlk hw dX1_has_21
  · replace hf := mF1 c1 hf
    refine lv_iload_n hx hb dX1_has_8 rfl (lv_at hl 0 rfl) ?_
    refine lv_bipush (v := (10 : Int32)) hx hb dX1_has_9 (by decide) ?_
    refine lv_irem hx hb dX1_has_11 (by decide) ?_
    refine lv_iload_n hx hb dX1_has_12 rfl (lv_at hl 1 rfl) ?_
    refine lv_icmp_ne (tgt := 20) hx hb dX1_has_13 (by decide) (fun c2 => ?_) (fun c2 => ?_)
    · replace hf := mF1 c2 hf
      refine lv_iconst (v := (0 : Int32)) hx hb dX1_has_20 (by decide) ?_
      rw [hQm, ← Option.some.inj hf]
      exact mrz (v := false) hx hb hr hlk hw dX1_has_21
    · replace hf := mT1 c2 hf
      refine lv_iconst (v := (1 : Int32)) hx hb dX1_has_16 (by decide) ?_
      refine lv_goto (tgt := 21) hx hb dX1_has_17 (by decide) ?_
      rw [hQm, ← Option.some.inj hf]
      exact mrz (v := true) hx hb hr hlk hw dX1_has_21
def f_X1_strangeToParent_L2 (K : mK) (v0 : Nat) (v1 : Nat) (I0 : mI) (J0 : mJ) (R0 : mR) : Nat → Int32 → Option (Bool ⊕ Unit)
  | 0, _ => none
  | N + 1, v2 =>
  if (3 : Int32) ≤ v2 then
  some (Sum.inr ())
  else
  if K v0 = (0, 1) then
  (R0 v0 6).bind fun x3 =>
  if mIx K x3 1 v2 then
  if K v1 = (0, 1) then
  (R0 v1 7).bind fun x7 =>
  if mIx K x7 1 v2 then
  if (I0 x3 (v2).toNatClampNeg) = 0 then
  f_X1_strangeToParent_L2 K v0 v1 I0 J0 R0 N (v2 + (1 : Int32))
  else
  if (I0 x7 (v2).toNatClampNeg) = 0 then
  f_X1_strangeToParent_L2 K v0 v1 I0 J0 R0 N (v2 + (1 : Int32))
  else
  (f_X1_has K (I0 x7 (v2).toNatClampNeg) ((I0 x3 (v2).toNatClampNeg) / (10 : Int32)) I0 J0 R0).bind fun z12 =>
  if (mb z12) = 0 then
  (f_X1_has K (I0 x7 (v2).toNatClampNeg) ((I0 x3 (v2).toNatClampNeg) - (I0 x3 (v2).toNatClampNeg) / (10 : Int32) * (10 : Int32)) I0 J0 R0).bind fun z15 =>
  if (mb z15) = 0 then
  some (Sum.inl true)
  else
  f_X1_strangeToParent_L2 K v0 v1 I0 J0 R0 N (v2 + (1 : Int32))
  else
  f_X1_strangeToParent_L2 K v0 v1 I0 J0 R0 N (v2 + (1 : Int32))
  else none
  else none
  else none
  else none
def f_X1_strangeToParent (K : mK) (a0 : Nat) (a1 : Nat) (I0 : mI) (J0 : mJ) (R0 : mR) : Option Bool :=
  (f_X1_strangeToParent_L2 K a0 a1 I0 J0 R0 8192 (0 : Int32)).bind fun z18 => Sum.elim (fun o => some o) (fun w20 =>
  some false) z18
set_option maxHeartbeats 4000000 in
set_option maxRecDepth 100000 in
theorem r_X1_strangeToParent (l : Launch) (g : mG) (K : mK) (n : Nat) (hJ : mInj g n) (hO : mOk K n) (a0 : Nat) (a1 : Nat) (I0 : mI) (J0 : mJ) (R0 : mR) (out : Bool) (hf : f_X1_strangeToParent K a0 a1 I0 J0 R0 = some out) : Met l yX1_strangeToParent (mWs yX1_strangeToParent cX1_strangeToParent 5 (some .boolean)) ({ frames := 1, cells := 0, slots := 0, locals := 21 }) (va_Pc [.ref (g.2.1 a0), .ref (g.2.1 a1)] (mB g K n I0 J0 R0)) (mQ g K n (some (.int (mb out))) I0 J0 R0) 0 0 (mA g n) := by
  unfold f_X1_strangeToParent at hf
  refine mStart RX1 hJ hO (by decide) rfl (Nat.le_of_ble_eq_true rfl) ?_
  intro p e s m below meth c ls Qm hQm B hr hlk hw hl
  have hx := B.1.1
  have hb := B.1.2.1
  have hl : lv_has ls 5 [(0, .ref (g.2.1 a0)), (1, .ref (g.2.1 a1))] := hl
  have L2 : ∀ (N : Nat) (v0 : Nat) (v1 : Nat) (v2 : Int32) (z : (Bool ⊕ Unit)) (H : Heap) (locs : List Loc) (ls : Array Slot), f_X1_strangeToParent_L2 K v0 v1 I0 J0 R0 N v2 = some z → mHp g K n s I0 J0 R0 H locs → lv_has ls 5 [(0, .ref (g.2.1 v0)), (1, .ref (g.2.1 v1)), (2, .int v2)] → (∀ w, z = Sum.inr w → (∀ (H : Heap) (locs : List Loc) (ls : Array Slot), mHp g K n s I0 J0 R0 H locs → lv_has ls 5 [] → W p l e ({ frames := 1, cells := 0, slots := 0, locals := 21 } : Room) s m ([.ref (g.2.1 a0), .ref (g.2.1 a1)] : List Value).toArray below meth c H locs 0 0 Qm (F0 m 63 ls []))) → (∀ o, z = Sum.inl o → o = out) → W p l e ({ frames := 1, cells := 0, slots := 0, locals := 21 } : Room) s m ([.ref (g.2.1 a0), .ref (g.2.1 a1)] : List Value).toArray below meth c H locs 0 0 Qm (F0 m 2 ls []) := by
    intro N
    induction N with
    | zero =>
      intro v0 v1 v2  z H locs ls hf hw hl kx ko
      rw [f_X1_strangeToParent_L2] at hf
      cases hf
    | succ N ih =>
      intro v0 v1 v2  z H locs ls hf hw hl kx ko
      rw [f_X1_strangeToParent_L2] at hf
      refine lv_iload_n hx hb dX1_strangeToParent_2 rfl (lv_at hl 2 rfl) ?_
      refine lv_iconst (v := (3 : Int32)) hx hb dX1_strangeToParent_3 (by decide) ?_
      refine lv_icmp_ge (tgt := 63) hx hb dX1_strangeToParent_4 (by decide) (fun c1 => ?_) (fun c1 => ?_)
      · replace hf := mT1 c1 hf
        obtain rfl := Option.some.inj hf
        exact kx _ rfl _ _ _ hw (lv_sub hl [] rfl)
      · replace hf := mF1 c1 hf
        refine lv_aload_n hx hb dX1_strangeToParent_7 rfl (lv_at hl 0 rfl) ?_
        obtain ⟨h2, hf⟩ := mChk hf
        obtain ⟨x3, e4, hf⟩ := mBind hf
        refine mgr B hw flX1_22 rfl h2 e4 dX1_strangeToParent_8 ?_
        refine lv_iload_n hx hb dX1_strangeToParent_11 rfl (lv_at hl 2 rfl) ?_
        obtain ⟨h5, hf⟩ := mChk hf
        refine mld1 B hw h5 dX1_strangeToParent_12 ?_
        refine lv_istore_n (lv' := [(3, .int (I0 x3 (v2).toNatClampNeg)), (0, .ref (g.2.1 v0)), (1, .ref (g.2.1 v1)), (2, .int v2)]) hx hb dX1_strangeToParent_13 rfl hl (by decide) rfl (fun ls hl => ?_)
        refine lv_aload_n hx hb dX1_strangeToParent_14 rfl (lv_at hl 2 rfl) ?_
        obtain ⟨h6, hf⟩ := mChk hf
        obtain ⟨x7, e8, hf⟩ := mBind hf
        refine mgr B hw flX1_25 rfl h6 e8 dX1_strangeToParent_15 ?_
        refine lv_iload_n hx hb dX1_strangeToParent_18 rfl (lv_at hl 3 rfl) ?_
        obtain ⟨h9, hf⟩ := mChk hf
        refine mld1 B hw h9 dX1_strangeToParent_19 ?_
        refine lv_istore (lv' := [(4, .int (I0 x7 (v2).toNatClampNeg)), (3, .int (I0 x3 (v2).toNatClampNeg)), (0, .ref (g.2.1 v0)), (1, .ref (g.2.1 v1)), (2, .int v2)]) hx hb dX1_strangeToParent_20 hl (by decide) rfl (fun ls hl => ?_)
        refine lv_iload_n hx hb dX1_strangeToParent_22 rfl (lv_at hl 1 rfl) ?_
        refine lv_if_eq (tgt := 57) hx hb dX1_strangeToParent_23 (by decide) (fun c10 => ?_) (fun c10 => ?_)
        · replace hf := mT1 c10 hf
          refine lv_iinc (v := (v2 + (1 : Int32))) (lv' := [(2, .int (v2 + (1 : Int32))), (4, .int (I0 x7 (v2).toNatClampNeg)), (3, .int (I0 x3 (v2).toNatClampNeg)), (0, .ref (g.2.1 v0)), (1, .ref (g.2.1 v1))]) hx hb dX1_strangeToParent_57 hl (k := 4) rfl rfl (by decide) rfl (fun ls hl => ?_)
          refine lv_goto (tgt := 2) hx hb dX1_strangeToParent_60 (by decide) ?_
          exact ih v0 v1 (v2 + (1 : Int32)) z _ _ _ hf hw (lv_sub hl [3, 4, 0] rfl) kx ko
        · replace hf := mF1 c10 hf
          refine lv_iload hx hb dX1_strangeToParent_26 (lv_at hl 0 rfl) ?_
          refine lv_if_eq (tgt := 57) hx hb dX1_strangeToParent_28 (by decide) (fun c11 => ?_) (fun c11 => ?_)
          · replace hf := mT1 c11 hf
            refine lv_iinc (v := (v2 + (1 : Int32))) (lv' := [(2, .int (v2 + (1 : Int32))), (4, .int (I0 x7 (v2).toNatClampNeg)), (3, .int (I0 x3 (v2).toNatClampNeg)), (0, .ref (g.2.1 v0)), (1, .ref (g.2.1 v1))]) hx hb dX1_strangeToParent_57 hl (k := 4) rfl rfl (by decide) rfl (fun ls hl => ?_)
            refine lv_goto (tgt := 2) hx hb dX1_strangeToParent_60 (by decide) ?_
            exact ih v0 v1 (v2 + (1 : Int32)) z _ _ _ hf hw (lv_sub hl [3, 4, 0] rfl) kx ko
          · replace hf := mF1 c11 hf
            refine lv_iload hx hb dX1_strangeToParent_31 (lv_at hl 0 rfl) ?_
            refine lv_iload_n hx hb dX1_strangeToParent_33 rfl (lv_at hl 1 rfl) ?_
            refine lv_bipush (v := (10 : Int32)) hx hb dX1_strangeToParent_34 (by decide) ?_
            refine lv_idiv hx hb dX1_strangeToParent_36 (by decide) ?_
            obtain ⟨z12, e13, hf⟩ := mBind hf
            refine mcallS (rest := []) B hw [.int (I0 x7 (v2).toNatClampNeg), .int ((I0 x3 (v2).toNatClampNeg) / (10 : Int32))] clX1_74 (r_X1_has l g K n hJ hO (I0 x7 (v2).toNatClampNeg) ((I0 x3 (v2).toNatClampNeg) / (10 : Int32)) I0 J0 R0 z12 e13) ⟨rfl, rfl, Nat.le_of_ble_eq_true rfl, Nat.le_of_ble_eq_true rfl⟩ rfl hl.1 (Nat.le_of_ble_eq_true rfl) ⟨Nat.zero_le _, Nat.zero_le _⟩ dX1_strangeToParent_37 (fun H locs hw => ?_)
            refine W.eq (g2 := F0 m 40 ls [.int (mb z12)]) rfl ?_
            refine lv_if_ne (tgt := 57) hx hb dX1_strangeToParent_40 (by decide) (fun c14 => ?_) (fun c14 => ?_)
            · replace hf := mF1 c14 hf
              refine lv_iinc (v := (v2 + (1 : Int32))) (lv' := [(2, .int (v2 + (1 : Int32))), (4, .int (I0 x7 (v2).toNatClampNeg)), (3, .int (I0 x3 (v2).toNatClampNeg)), (0, .ref (g.2.1 v0)), (1, .ref (g.2.1 v1))]) hx hb dX1_strangeToParent_57 hl (k := 4) rfl rfl (by decide) rfl (fun ls hl => ?_)
              refine lv_goto (tgt := 2) hx hb dX1_strangeToParent_60 (by decide) ?_
              exact ih v0 v1 (v2 + (1 : Int32)) z _ _ _ hf hw (lv_sub hl [3, 4, 0] rfl) kx ko
            · replace hf := mT1 c14 hf
              refine lv_iload hx hb dX1_strangeToParent_43 (lv_at hl 0 rfl) ?_
              refine lv_iload_n hx hb dX1_strangeToParent_45 rfl (lv_at hl 1 rfl) ?_
              refine lv_bipush (v := (10 : Int32)) hx hb dX1_strangeToParent_46 (by decide) ?_
              refine lv_irem hx hb dX1_strangeToParent_48 (by decide) ?_
              obtain ⟨z15, e16, hf⟩ := mBind hf
              refine mcallS (rest := []) B hw [.int (I0 x7 (v2).toNatClampNeg), .int ((I0 x3 (v2).toNatClampNeg) - (I0 x3 (v2).toNatClampNeg) / (10 : Int32) * (10 : Int32))] clX1_74 (r_X1_has l g K n hJ hO (I0 x7 (v2).toNatClampNeg) ((I0 x3 (v2).toNatClampNeg) - (I0 x3 (v2).toNatClampNeg) / (10 : Int32) * (10 : Int32)) I0 J0 R0 z15 e16) ⟨rfl, rfl, Nat.le_of_ble_eq_true rfl, Nat.le_of_ble_eq_true rfl⟩ rfl hl.1 (Nat.le_of_ble_eq_true rfl) ⟨Nat.zero_le _, Nat.zero_le _⟩ dX1_strangeToParent_49 (fun H locs hw => ?_)
              refine W.eq (g2 := F0 m 52 ls [.int (mb z15)]) rfl ?_
              refine lv_if_ne (tgt := 57) hx hb dX1_strangeToParent_52 (by decide) (fun c17 => ?_) (fun c17 => ?_)
              · replace hf := mF1 c17 hf
                refine lv_iinc (v := (v2 + (1 : Int32))) (lv' := [(2, .int (v2 + (1 : Int32))), (4, .int (I0 x7 (v2).toNatClampNeg)), (3, .int (I0 x3 (v2).toNatClampNeg)), (0, .ref (g.2.1 v0)), (1, .ref (g.2.1 v1))]) hx hb dX1_strangeToParent_57 hl (k := 4) rfl rfl (by decide) rfl (fun ls hl => ?_)
                refine lv_goto (tgt := 2) hx hb dX1_strangeToParent_60 (by decide) ?_
                exact ih v0 v1 (v2 + (1 : Int32)) z _ _ _ hf hw (lv_sub hl [3, 4, 0] rfl) kx ko
              · replace hf := mT1 c17 hf
                refine lv_iconst (v := (1 : Int32)) hx hb dX1_strangeToParent_55 (by decide) ?_
                rw [hQm, ← ko _ (Option.some.inj hf).symm]
                exact mrz (v := true) hx hb hr hlk hw dX1_strangeToParent_56
  refine lv_iconst (v := (0 : Int32)) hx hb dX1_strangeToParent_0 (by decide) ?_
  refine lv_istore_n (lv' := [(2, .int (0 : Int32)), (0, .ref (g.2.1 a0)), (1, .ref (g.2.1 a1))]) hx hb dX1_strangeToParent_1 rfl hl (by decide) rfl (fun ls hl => ?_)
  obtain ⟨z18, e19, hf⟩ := mBind hf
  refine L2 8192 a0 a1 (0 : Int32) z18 _ _ _ e19 hw (lv_sub hl [1, 2, 0] rfl) (fun w20 hw9 H locs ls hw hl => ?_) (fun o ho => ?_)
  · subst hw9
    replace hf := mInr hf
    refine lv_iconst (v := (0 : Int32)) hx hb dX1_strangeToParent_63 (by decide) ?_
    rw [hQm, ← Option.some.inj hf]
    exact mrz (v := false) hx hb hr hlk hw dX1_strangeToParent_64
  · subst ho
    exact Option.some.inj (mInl hf)
def f_X1_barFrom (K : mK) (a0 : Nat) (a1 : Nat) (I0 : mI) (J0 : mJ) (R0 : mR) : Option Int32 :=
  if K a0 = (0, 1) then
  (f_X1_sexUnlike K a0 a1 I0 J0 R0).bind fun z2 =>
  if (mb z2) = 0 then
  (f_X1_ageMeets K a0 a1 I0 J0 R0).bind fun z5 =>
  if (mb z5) = 0 then
  some (2 : Int32)
  else
  (f_X1_toothCameBack K a0 a1 I0 J0 R0).bind fun z8 =>
  if (mb z8) = 0 then
  (f_X1_sheetUnlike K a0 a1 I0 J0 R0).bind fun z11 =>
  if (mb z11) = 0 then
  (f_X1_strangeToParent K a0 a1 I0 J0 R0).bind fun z14 =>
  if (mb z14) = 0 then
  some (0 : Int32)
  else
  some (5 : Int32)
  else
  some (4 : Int32)
  else
  some (3 : Int32)
  else
  some (1 : Int32)
  else none
set_option maxHeartbeats 4000000 in
set_option maxRecDepth 100000 in
theorem r_X1_barFrom (l : Launch) (g : mG) (K : mK) (n : Nat) (hJ : mInj g n) (hO : mOk K n) (a0 : Nat) (a1 : Nat) (I0 : mI) (J0 : mJ) (R0 : mR) (out : Int32) (hf : f_X1_barFrom K a0 a1 I0 J0 R0 = some out) : Met l yX1_barFrom (mWs yX1_barFrom cX1_barFrom 2 (some .int)) ({ frames := 2, cells := 0, slots := 0, locals := 45 }) (va_Pc [.ref (g.2.1 a0), .ref (g.2.1 a1)] (mB g K n I0 J0 R0)) (mQ g K n (some (.int out)) I0 J0 R0) 0 0 (mA g n) := by
  unfold f_X1_barFrom at hf
  refine mStart RX1 hJ hO (by decide) rfl (Nat.le_of_ble_eq_true rfl) ?_
  intro p e s m below meth c ls Qm hQm B hr hlk hw hl
  have hx := B.1.1
  have hb := B.1.2.1
  have hl : lv_has ls 2 [(0, .ref (g.2.1 a0)), (1, .ref (g.2.1 a1))] := hl
  refine lv_aload_n hx hb dX1_barFrom_0 rfl (lv_at hl 0 rfl) ?_
  refine lv_aload_n hx hb dX1_barFrom_1 rfl (lv_at hl 1 rfl) ?_
  obtain ⟨h1, hf⟩ := mChk hf
  obtain ⟨z2, e3, hf⟩ := mBind hf
  refine mcallV (rest := []) (ci := 1) B hw [.ref (g.2.1 a1)] clX1_58 rfl h1 (r_X1_sexUnlike l g K n hJ hO a0 a1 I0 J0 R0 z2 e3) ⟨rfl, rfl, Nat.le_of_ble_eq_true rfl, Nat.le_of_ble_eq_true rfl⟩ rfl hl.1 (Nat.le_of_ble_eq_true rfl) ⟨Nat.zero_le _, Nat.zero_le _⟩ dX1_barFrom_2 (fun H locs hw => ?_)
  refine W.eq (g2 := F0 m 5 ls [.int (mb z2)]) rfl ?_
  refine lv_if_eq (tgt := 10) hx hb dX1_barFrom_5 (by decide) (fun c4 => ?_) (fun c4 => ?_)
  · replace hf := mT1 c4 hf
    refine lv_aload_n hx hb dX1_barFrom_10 rfl (lv_at hl 0 rfl) ?_
    refine lv_aload_n hx hb dX1_barFrom_11 rfl (lv_at hl 1 rfl) ?_
    obtain ⟨z5, e6, hf⟩ := mBind hf
    refine mcallV (rest := []) (ci := 1) B hw [.ref (g.2.1 a1)] clX1_62 rfl h1 (r_X1_ageMeets l g K n hJ hO a0 a1 I0 J0 R0 z5 e6) ⟨rfl, rfl, Nat.le_of_ble_eq_true rfl, Nat.le_of_ble_eq_true rfl⟩ rfl hl.1 (Nat.le_of_ble_eq_true rfl) ⟨Nat.zero_le _, Nat.zero_le _⟩ dX1_barFrom_12 (fun H locs hw => ?_)
    refine W.eq (g2 := F0 m 15 ls [.int (mb z5)]) rfl ?_
    refine lv_if_ne (tgt := 20) hx hb dX1_barFrom_15 (by decide) (fun c7 => ?_) (fun c7 => ?_)
    · replace hf := mF1 c7 hf
      refine lv_aload_n hx hb dX1_barFrom_20 rfl (lv_at hl 0 rfl) ?_
      refine lv_aload_n hx hb dX1_barFrom_21 rfl (lv_at hl 1 rfl) ?_
      obtain ⟨z8, e9, hf⟩ := mBind hf
      refine mcallV (rest := []) (ci := 1) B hw [.ref (g.2.1 a1)] clX1_65 rfl h1 (r_X1_toothCameBack l g K n hJ hO a0 a1 I0 J0 R0 z8 e9) ⟨rfl, rfl, Nat.le_of_ble_eq_true rfl, Nat.le_of_ble_eq_true rfl⟩ rfl hl.1 (Nat.le_of_ble_eq_true rfl) ⟨Nat.zero_le _, Nat.zero_le _⟩ dX1_barFrom_22 (fun H locs hw => ?_)
      refine W.eq (g2 := F0 m 25 ls [.int (mb z8)]) rfl ?_
      refine lv_if_eq (tgt := 30) hx hb dX1_barFrom_25 (by decide) (fun c10 => ?_) (fun c10 => ?_)
      · replace hf := mT1 c10 hf
        refine lv_aload_n hx hb dX1_barFrom_30 rfl (lv_at hl 0 rfl) ?_
        refine lv_aload_n hx hb dX1_barFrom_31 rfl (lv_at hl 1 rfl) ?_
        obtain ⟨z11, e12, hf⟩ := mBind hf
        refine mcallV (rest := []) (ci := 1) B hw [.ref (g.2.1 a1)] clX1_68 rfl h1 (r_X1_sheetUnlike l g K n hJ hO a0 a1 I0 J0 R0 z11 e12) ⟨rfl, rfl, Nat.le_of_ble_eq_true rfl, Nat.le_of_ble_eq_true rfl⟩ rfl hl.1 (Nat.le_of_ble_eq_true rfl) ⟨Nat.zero_le _, Nat.zero_le _⟩ dX1_barFrom_32 (fun H locs hw => ?_)
        refine W.eq (g2 := F0 m 35 ls [.int (mb z11)]) rfl ?_
        refine lv_if_eq (tgt := 40) hx hb dX1_barFrom_35 (by decide) (fun c13 => ?_) (fun c13 => ?_)
        · replace hf := mT1 c13 hf
          refine lv_aload_n hx hb dX1_barFrom_40 rfl (lv_at hl 0 rfl) ?_
          refine lv_aload_n hx hb dX1_barFrom_41 rfl (lv_at hl 1 rfl) ?_
          obtain ⟨z14, e15, hf⟩ := mBind hf
          refine mcallV (rest := []) (ci := 1) B hw [.ref (g.2.1 a1)] clX1_71 rfl h1 (r_X1_strangeToParent l g K n hJ hO a0 a1 I0 J0 R0 z14 e15) ⟨rfl, rfl, Nat.le_of_ble_eq_true rfl, Nat.le_of_ble_eq_true rfl⟩ rfl hl.1 (Nat.le_of_ble_eq_true rfl) ⟨Nat.zero_le _, Nat.zero_le _⟩ dX1_barFrom_42 (fun H locs hw => ?_)
          refine W.eq (g2 := F0 m 45 ls [.int (mb z14)]) rfl ?_
          refine lv_if_eq (tgt := 52) hx hb dX1_barFrom_45 (by decide) (fun c16 => ?_) (fun c16 => ?_)
          · replace hf := mT1 c16 hf
            refine lv_iconst (v := (0 : Int32)) hx hb dX1_barFrom_52 (by decide) ?_
            rw [hQm, ← Option.some.inj hf]
            exact mri hx hb hr hlk hw dX1_barFrom_53
          · replace hf := mF1 c16 hf
            refine lv_iconst (v := (5 : Int32)) hx hb dX1_barFrom_48 (by decide) ?_
            refine lv_goto (tgt := 53) hx hb dX1_barFrom_49 (by decide) ?_
            rw [hQm, ← Option.some.inj hf]
            exact mri hx hb hr hlk hw dX1_barFrom_53
        · replace hf := mF1 c13 hf
          refine lv_iconst (v := (4 : Int32)) hx hb dX1_barFrom_38 (by decide) ?_
          rw [hQm, ← Option.some.inj hf]
          exact mri hx hb hr hlk hw dX1_barFrom_39
      · replace hf := mF1 c10 hf
        refine lv_iconst (v := (3 : Int32)) hx hb dX1_barFrom_28 (by decide) ?_
        rw [hQm, ← Option.some.inj hf]
        exact mri hx hb hr hlk hw dX1_barFrom_29
    · replace hf := mT1 c7 hf
      refine lv_iconst (v := (2 : Int32)) hx hb dX1_barFrom_18 (by decide) ?_
      rw [hQm, ← Option.some.inj hf]
      exact mri hx hb hr hlk hw dX1_barFrom_19
  · replace hf := mF1 c4 hf
    refine lv_iconst (v := (1 : Int32)) hx hb dX1_barFrom_8 (by decide) ?_
    rw [hQm, ← Option.some.inj hf]
    exact mri hx hb hr hlk hw dX1_barFrom_9
def f_X2_open (K : mK) (a0 : Nat) (I0 : mI) (J0 : mJ) (R0 : mR) : Option (Int32 × mI) :=
  if K a0 = (0, 2) then
  if (I0 a0 1) < (12 : Int32) then
  (some (mup I0 a0 1 ((I0 a0 1) + (1 : Int32)))).bind fun I3 =>
  some (((I3 a0 1) - (1 : Int32)), I3)
  else
  some ((-1 : Int32), I0)
  else none
set_option maxHeartbeats 4000000 in
set_option maxRecDepth 100000 in
theorem r_X2_open (l : Launch) (g : mG) (K : mK) (n : Nat) (hJ : mInj g n) (hO : mOk K n) (a0 : Nat) (I0 : mI) (J0 : mJ) (R0 : mR) (out : (Int32 × mI)) (hf : f_X2_open K a0 I0 J0 R0 = some out) : Met l yX2_open (mWs yX2_open cX2_open 1 (some .int)) ({ frames := 0, cells := 0, slots := 0, locals := 0 }) (va_Pc [.ref (g.2.1 a0)] (mB g K n I0 J0 R0)) (mQ g K n (some (.int out.1)) out.2 J0 R0) 0 0 (mA g n) := by
  unfold f_X2_open at hf
  refine mStart RX2 hJ hO (by decide) rfl (Nat.le_of_ble_eq_true rfl) ?_
  intro p e s m below meth c ls Qm hQm B hr hlk hw hl
  have hx := B.1.1
  have hb := B.1.2.1
  have hl : lv_has ls 1 [(0, .ref (g.2.1 a0))] := hl
  refine lv_aload_n hx hb dX2_open_0 rfl (lv_at hl 0 rfl) ?_
  obtain ⟨h1, hf⟩ := mChk hf
  refine mgi B hw flX2_18 rfl h1 dX2_open_1 ?_
  refine lv_bipush (v := (12 : Int32)) hx hb dX2_open_4 (by decide) ?_
  refine lv_icmp_lt (tgt := 11) hx hb dX2_open_6 (by decide) (fun c2 => ?_) (fun c2 => ?_)
  · replace hf := mT1 c2 hf
    refine lv_aload_n hx hb dX2_open_11 rfl (lv_at hl 0 rfl) ?_
    refine lv_dup hx hb dX2_open_12 rfl ?_
    refine mgi B hw flX2_18 rfl h1 dX2_open_13 ?_
    refine lv_iconst (v := (1 : Int32)) hx hb dX2_open_16 (by decide) ?_
    refine lv_iadd hx hb dX2_open_17 ?_
    obtain ⟨I3, e4, hf⟩ := mLet hf
    refine mpi B hw puX2_18 rfl h1 dX2_open_18 (fun H locs hw => ?_)
    rw [← e4] at hw
    refine lv_aload_n hx hb dX2_open_21 rfl (lv_at hl 0 rfl) ?_
    refine mgi B hw flX2_18 rfl h1 dX2_open_22 ?_
    refine lv_iconst (v := (1 : Int32)) hx hb dX2_open_25 (by decide) ?_
    refine lv_isub hx hb dX2_open_26 ?_
    rw [hQm, ← Option.some.inj hf]
    exact mri hx hb hr hlk hw dX2_open_27
  · replace hf := mF1 c2 hf
    refine lv_iconst (v := (-1 : Int32)) hx hb dX2_open_9 (by decide) ?_
    rw [hQm, ← Option.some.inj hf]
    exact mri hx hb hr hlk hw dX2_open_10
def f_X2_find (K : mK) (a0 : Nat) (a1 : Int32) (I0 : mI) (J0 : mJ) (R0 : mR) : Option (Option Nat) :=
  if a1 < 0 then
  some none
  else
  if K a0 = (0, 2) then
  if (I0 a0 1) ≤ a1 then
  some none
  else
  (R0 a0 0).bind fun x4 =>
  if mIx K x4 5 a1 then
  (R0 x4 (a1).toNatClampNeg).bind fun x7 =>
  some (some x7)
  else none
  else none
set_option maxHeartbeats 4000000 in
set_option maxRecDepth 100000 in
theorem r_X2_find (l : Launch) (g : mG) (K : mK) (n : Nat) (hJ : mInj g n) (hO : mOk K n) (a0 : Nat) (a1 : Int32) (I0 : mI) (J0 : mJ) (R0 : mR) (out : (Option Nat)) (hf : f_X2_find K a0 a1 I0 J0 R0 = some out) : Met l yX2_find (mWs yX2_find cX2_find 2 (some (.object "NamedAgain$Card"))) ({ frames := 0, cells := 0, slots := 0, locals := 0 }) (va_Pc [.ref (g.2.1 a0), .int a1] (mB g K n I0 J0 R0)) (mQ g K n (some (va_rf (Option.map g.2.1 out))) I0 J0 R0) 0 0 (mA g n) := by
  unfold f_X2_find at hf
  refine mStart RX2 hJ hO (by decide) rfl (Nat.le_of_ble_eq_true rfl) ?_
  intro p e s m below meth c ls Qm hQm B hr hlk hw hl
  have hx := B.1.1
  have hb := B.1.2.1
  have hl : lv_has ls 2 [(0, .ref (g.2.1 a0)), (1, .int a1)] := hl
  refine lv_iload_n hx hb dX2_find_0 rfl (lv_at hl 1 rfl) ?_
  refine lv_if_lt (tgt := 21) hx hb dX2_find_1 (by decide) (fun c1 => ?_) (fun c1 => ?_)
  · replace hf := mT1 c1 hf
    refine lv_null hx hb dX2_find_21 ?_
    rw [hQm, ← Option.some.inj hf]
    exact mra (v := none) hx hb hr hlk hw dX2_find_22
  · replace hf := mF1 c1 hf
    refine lv_iload_n hx hb dX2_find_4 rfl (lv_at hl 1 rfl) ?_
    refine lv_aload_n hx hb dX2_find_5 rfl (lv_at hl 0 rfl) ?_
    obtain ⟨h2, hf⟩ := mChk hf
    refine mgi B hw flX2_18 rfl h2 dX2_find_6 ?_
    refine lv_icmp_ge (tgt := 21) hx hb dX2_find_9 (by decide) (fun c3 => ?_) (fun c3 => ?_)
    · replace hf := mT1 c3 hf
      refine lv_null hx hb dX2_find_21 ?_
      rw [hQm, ← Option.some.inj hf]
      exact mra (v := none) hx hb hr hlk hw dX2_find_22
    · replace hf := mF1 c3 hf
      refine lv_aload_n hx hb dX2_find_12 rfl (lv_at hl 0 rfl) ?_
      obtain ⟨x4, e5, hf⟩ := mBind hf
      refine mgr B hw flX2_11 rfl h2 e5 dX2_find_13 ?_
      refine lv_iload_n hx hb dX2_find_16 rfl (lv_at hl 1 rfl) ?_
      obtain ⟨h6, hf⟩ := mChk hf
      obtain ⟨x7, e8, hf⟩ := mBind hf
      refine mld5 B hw h6 e8 dX2_find_17 ?_
      refine lv_goto (tgt := 22) hx hb dX2_find_18 (by decide) ?_
      rw [hQm, ← Option.some.inj hf]
      exact mra (v := (some x7)) hx hb hr hlk hw dX2_find_22
def f_X3_reset_L24 (K : mK) (v0 : Nat) (J0 : mJ) (R0 : mR) : Nat → Int32 → mI → Option mI
  | 0, _, _ => none
  | N + 1, v1, I =>
  if (4 : Int32) ≤ v1 then
  some I
  else
  if K v0 = (0, 3) then
  (R0 v0 1).bind fun x3 =>
  if mIx K x3 1 v1 then
  (some (mup I x3 (v1).toNatClampNeg (5 : Int32))).bind fun I6 =>
  f_X3_reset_L24 K v0 J0 R0 N (v1 + (1 : Int32)) I6
  else none
  else none
def f_X3_reset_L44 (K : mK) (v0 : Nat) (J0 : mJ) (R0 : mR) : Nat → Int32 → mI → Option mI
  | 0, _, _ => none
  | N + 1, v1, I =>
  if (9 : Int32) < v1 then
  some I
  else
  if K v0 = (0, 3) then
  (R0 v0 2).bind fun x10 =>
  if mIx K x10 1 v1 then
  (some (mup I x10 (v1).toNatClampNeg (3 : Int32))).bind fun I13 =>
  f_X3_reset_L44 K v0 J0 R0 N (v1 + (1 : Int32)) I13
  else none
  else none
def f_X3_reset (K : mK) (a0 : Nat) (I0 : mI) (J0 : mJ) (R0 : mR) : Option mI :=
  if K a0 = (0, 3) then
  (R0 a0 0).bind fun x16 =>
  if mIx K x16 1 (1 : Int32) then
  (some (mup I0 x16 ((1 : Int32)).toNatClampNeg (1 : Int32))).bind fun I19 =>
  if mIx K x16 1 (2 : Int32) then
  (some (mup I19 x16 ((2 : Int32)).toNatClampNeg (4 : Int32))).bind fun I22 =>
  if mIx K x16 1 (3 : Int32) then
  (some (mup I22 x16 ((3 : Int32)).toNatClampNeg (6 : Int32))).bind fun I25 =>
  (f_X3_reset_L24 K a0 J0 R0 8192 (0 : Int32) I25).bind fun z27 =>
  (f_X3_reset_L44 K a0 J0 R0 8192 (1 : Int32) z27).bind fun z29 =>
  (R0 a0 3).bind fun x31 =>
  if mIx K x31 1 (0 : Int32) then
  (some (mup z29 x31 ((0 : Int32)).toNatClampNeg (2 : Int32))).bind fun I34 =>
  if mIx K x31 1 (1 : Int32) then
  (some (mup I34 x31 ((1 : Int32)).toNatClampNeg (20 : Int32))).bind fun I37 =>
  if mIx K x31 1 (2 : Int32) then
  (some (mup I37 x31 ((2 : Int32)).toNatClampNeg (5 : Int32))).bind fun I40 =>
  if mIx K x31 1 (3 : Int32) then
  (some (mup I40 x31 ((3 : Int32)).toNatClampNeg (2 : Int32))).bind fun I43 =>
  some I43
  else none
  else none
  else none
  else none
  else none
  else none
  else none
  else none
set_option maxHeartbeats 4000000 in
set_option maxRecDepth 100000 in
theorem r_X3_reset (l : Launch) (g : mG) (K : mK) (n : Nat) (hJ : mInj g n) (hO : mOk K n) (a0 : Nat) (I0 : mI) (J0 : mJ) (R0 : mR) (out : mI) (hf : f_X3_reset K a0 I0 J0 R0 = some out) : Met l yX3_reset (mWs yX3_reset cX3_reset 2 none) ({ frames := 0, cells := 0, slots := 0, locals := 0 }) (va_Pc [.ref (g.2.1 a0)] (mB g K n I0 J0 R0)) (mQ g K n none out J0 R0) 0 0 (mA g n) := by
  unfold f_X3_reset at hf
  refine mStart RX3 hJ hO (by decide) rfl (Nat.le_of_ble_eq_true rfl) ?_
  intro p e s m below meth c ls Qm hQm B hr hlk hw hl
  have hx := B.1.1
  have hb := B.1.2.1
  have hl : lv_has ls 2 [(0, .ref (g.2.1 a0))] := hl
  have L24 : ∀ (N : Nat) (v0 : Nat) (v1 : Int32) (I : mI) (z : mI) (H : Heap) (locs : List Loc) (ls : Array Slot), f_X3_reset_L24 K v0 J0 R0 N v1 I = some z → mHp g K n s I J0 R0 H locs → lv_has ls 2 [(0, .ref (g.2.1 v0)), (1, .int v1)] → (∀ (H : Heap) (locs : List Loc) (ls : Array Slot), mHp g K n s z J0 R0 H locs → lv_has ls 2 [(0, .ref (g.2.1 v0))] → W p l e ({ frames := 0, cells := 0, slots := 0, locals := 0 } : Room) s m ([.ref (g.2.1 a0)] : List Value).toArray below meth c H locs 0 0 Qm (F0 m 42 ls [])) → W p l e ({ frames := 0, cells := 0, slots := 0, locals := 0 } : Room) s m ([.ref (g.2.1 a0)] : List Value).toArray below meth c H locs 0 0 Qm (F0 m 24 ls []) := by
    intro N
    induction N with
    | zero =>
      intro v0 v1 I z H locs ls hf hw hl kx
      rw [f_X3_reset_L24] at hf
      cases hf
    | succ N ih =>
      intro v0 v1 I z H locs ls hf hw hl kx
      rw [f_X3_reset_L24] at hf
      refine lv_iload_n hx hb dX3_reset_24 rfl (lv_at hl 1 rfl) ?_
      refine lv_iconst (v := (4 : Int32)) hx hb dX3_reset_25 (by decide) ?_
      refine lv_icmp_ge (tgt := 42) hx hb dX3_reset_26 (by decide) (fun c1 => ?_) (fun c1 => ?_)
      · replace hf := mT1 c1 hf
        obtain rfl := Option.some.inj hf
        exact kx _ _ _ hw (lv_sub hl [0] rfl)
      · replace hf := mF1 c1 hf
        refine lv_aload_n hx hb dX3_reset_29 rfl (lv_at hl 0 rfl) ?_
        obtain ⟨h2, hf⟩ := mChk hf
        obtain ⟨x3, e4, hf⟩ := mBind hf
        refine mgr B hw flX3_15 rfl h2 e4 dX3_reset_30 ?_
        refine lv_iload_n hx hb dX3_reset_33 rfl (lv_at hl 1 rfl) ?_
        refine lv_iconst (v := (5 : Int32)) hx hb dX3_reset_34 (by decide) ?_
        obtain ⟨h5, hf⟩ := mChk hf
        obtain ⟨I6, e7, hf⟩ := mLet hf
        refine mst1 B hw h5 dX3_reset_35 (fun H locs hw => ?_)
        rw [← e7] at hw
        refine lv_iinc (v := (v1 + (1 : Int32))) (lv' := [(1, .int (v1 + (1 : Int32))), (0, .ref (g.2.1 v0))]) hx hb dX3_reset_36 hl (k := 1) rfl rfl (by decide) rfl (fun ls hl => ?_)
        refine lv_goto (tgt := 24) hx hb dX3_reset_39 (by decide) ?_
        exact ih v0 (v1 + (1 : Int32)) I6 z _ _ _ hf hw (lv_sub hl [1, 0] rfl) kx
  have L44 : ∀ (N : Nat) (v0 : Nat) (v1 : Int32) (I : mI) (z : mI) (H : Heap) (locs : List Loc) (ls : Array Slot), f_X3_reset_L44 K v0 J0 R0 N v1 I = some z → mHp g K n s I J0 R0 H locs → lv_has ls 2 [(0, .ref (g.2.1 v0)), (1, .int v1)] → (∀ (H : Heap) (locs : List Loc) (ls : Array Slot), mHp g K n s z J0 R0 H locs → lv_has ls 2 [(0, .ref (g.2.1 v0))] → W p l e ({ frames := 0, cells := 0, slots := 0, locals := 0 } : Room) s m ([.ref (g.2.1 a0)] : List Value).toArray below meth c H locs 0 0 Qm (F0 m 63 ls [])) → W p l e ({ frames := 0, cells := 0, slots := 0, locals := 0 } : Room) s m ([.ref (g.2.1 a0)] : List Value).toArray below meth c H locs 0 0 Qm (F0 m 44 ls []) := by
    intro N
    induction N with
    | zero =>
      intro v0 v1 I z H locs ls hf hw hl kx
      rw [f_X3_reset_L44] at hf
      cases hf
    | succ N ih =>
      intro v0 v1 I z H locs ls hf hw hl kx
      rw [f_X3_reset_L44] at hf
      refine lv_iload_n hx hb dX3_reset_44 rfl (lv_at hl 1 rfl) ?_
      refine lv_bipush (v := (9 : Int32)) hx hb dX3_reset_45 (by decide) ?_
      refine lv_icmp_gt (tgt := 63) hx hb dX3_reset_47 (by decide) (fun c8 => ?_) (fun c8 => ?_)
      · replace hf := mT1 c8 hf
        obtain rfl := Option.some.inj hf
        exact kx _ _ _ hw (lv_sub hl [0] rfl)
      · replace hf := mF1 c8 hf
        refine lv_aload_n hx hb dX3_reset_50 rfl (lv_at hl 0 rfl) ?_
        obtain ⟨h9, hf⟩ := mChk hf
        obtain ⟨x10, e11, hf⟩ := mBind hf
        refine mgr B hw flX3_18 rfl h9 e11 dX3_reset_51 ?_
        refine lv_iload_n hx hb dX3_reset_54 rfl (lv_at hl 1 rfl) ?_
        refine lv_iconst (v := (3 : Int32)) hx hb dX3_reset_55 (by decide) ?_
        obtain ⟨h12, hf⟩ := mChk hf
        obtain ⟨I13, e14, hf⟩ := mLet hf
        refine mst1 B hw h12 dX3_reset_56 (fun H locs hw => ?_)
        rw [← e14] at hw
        refine lv_iinc (v := (v1 + (1 : Int32))) (lv' := [(1, .int (v1 + (1 : Int32))), (0, .ref (g.2.1 v0))]) hx hb dX3_reset_57 hl (k := 1) rfl rfl (by decide) rfl (fun ls hl => ?_)
        refine lv_goto (tgt := 44) hx hb dX3_reset_60 (by decide) ?_
        exact ih v0 (v1 + (1 : Int32)) I13 z _ _ _ hf hw (lv_sub hl [1, 0] rfl) kx
  refine lv_aload_n hx hb dX3_reset_0 rfl (lv_at hl 0 rfl) ?_
  obtain ⟨h15, hf⟩ := mChk hf
  obtain ⟨x16, e17, hf⟩ := mBind hf
  refine mgr B hw flX3_9 rfl h15 e17 dX3_reset_1 ?_
  refine lv_iconst (v := (1 : Int32)) hx hb dX3_reset_4 (by decide) ?_
  refine lv_iconst (v := (1 : Int32)) hx hb dX3_reset_5 (by decide) ?_
  obtain ⟨h18, hf⟩ := mChk hf
  obtain ⟨I19, e20, hf⟩ := mLet hf
  refine mst1 B hw h18 dX3_reset_6 (fun H locs hw => ?_)
  rw [← e20] at hw
  refine lv_aload_n hx hb dX3_reset_7 rfl (lv_at hl 0 rfl) ?_
  refine mgr B hw flX3_9 rfl h15 e17 dX3_reset_8 ?_
  refine lv_iconst (v := (2 : Int32)) hx hb dX3_reset_11 (by decide) ?_
  refine lv_iconst (v := (4 : Int32)) hx hb dX3_reset_12 (by decide) ?_
  obtain ⟨h21, hf⟩ := mChk hf
  obtain ⟨I22, e23, hf⟩ := mLet hf
  refine mst1 B hw h21 dX3_reset_13 (fun H locs hw => ?_)
  rw [← e23] at hw
  refine lv_aload_n hx hb dX3_reset_14 rfl (lv_at hl 0 rfl) ?_
  refine mgr B hw flX3_9 rfl h15 e17 dX3_reset_15 ?_
  refine lv_iconst (v := (3 : Int32)) hx hb dX3_reset_18 (by decide) ?_
  refine lv_bipush (v := (6 : Int32)) hx hb dX3_reset_19 (by decide) ?_
  obtain ⟨h24, hf⟩ := mChk hf
  obtain ⟨I25, e26, hf⟩ := mLet hf
  refine mst1 B hw h24 dX3_reset_21 (fun H locs hw => ?_)
  rw [← e26] at hw
  refine lv_iconst (v := (0 : Int32)) hx hb dX3_reset_22 (by decide) ?_
  refine lv_istore_n (lv' := [(1, .int (0 : Int32)), (0, .ref (g.2.1 a0))]) hx hb dX3_reset_23 rfl hl (by decide) rfl (fun ls hl => ?_)
  obtain ⟨z27, e28, hf⟩ := mBind hf
  refine L24 8192 a0 (0 : Int32) I25 z27 _ _ _ e28 hw (lv_sub hl [1, 0] rfl) (fun H locs ls hw hl => ?_)
  refine lv_iconst (v := (1 : Int32)) hx hb dX3_reset_42 (by decide) ?_
  refine lv_istore_n (lv' := [(1, .int (1 : Int32)), (0, .ref (g.2.1 a0))]) hx hb dX3_reset_43 rfl hl (by decide) rfl (fun ls hl => ?_)
  obtain ⟨z29, e30, hf⟩ := mBind hf
  refine L44 8192 a0 (1 : Int32) z27 z29 _ _ _ e30 hw (lv_sub hl [1, 0] rfl) (fun H locs ls hw hl => ?_)
  refine lv_aload_n hx hb dX3_reset_63 rfl (lv_at hl 0 rfl) ?_
  obtain ⟨x31, e32, hf⟩ := mBind hf
  refine mgr B hw flX3_21 rfl h15 e32 dX3_reset_64 ?_
  refine lv_iconst (v := (0 : Int32)) hx hb dX3_reset_67 (by decide) ?_
  refine lv_iconst (v := (2 : Int32)) hx hb dX3_reset_68 (by decide) ?_
  obtain ⟨h33, hf⟩ := mChk hf
  obtain ⟨I34, e35, hf⟩ := mLet hf
  refine mst1 B hw h33 dX3_reset_69 (fun H locs hw => ?_)
  rw [← e35] at hw
  refine lv_aload_n hx hb dX3_reset_70 rfl (lv_at hl 0 rfl) ?_
  refine mgr B hw flX3_21 rfl h15 e32 dX3_reset_71 ?_
  refine lv_iconst (v := (1 : Int32)) hx hb dX3_reset_74 (by decide) ?_
  refine lv_bipush (v := (20 : Int32)) hx hb dX3_reset_75 (by decide) ?_
  obtain ⟨h36, hf⟩ := mChk hf
  obtain ⟨I37, e38, hf⟩ := mLet hf
  refine mst1 B hw h36 dX3_reset_77 (fun H locs hw => ?_)
  rw [← e38] at hw
  refine lv_aload_n hx hb dX3_reset_78 rfl (lv_at hl 0 rfl) ?_
  refine mgr B hw flX3_21 rfl h15 e32 dX3_reset_79 ?_
  refine lv_iconst (v := (2 : Int32)) hx hb dX3_reset_82 (by decide) ?_
  refine lv_iconst (v := (5 : Int32)) hx hb dX3_reset_83 (by decide) ?_
  obtain ⟨h39, hf⟩ := mChk hf
  obtain ⟨I40, e41, hf⟩ := mLet hf
  refine mst1 B hw h39 dX3_reset_84 (fun H locs hw => ?_)
  rw [← e41] at hw
  refine lv_aload_n hx hb dX3_reset_85 rfl (lv_at hl 0 rfl) ?_
  refine mgr B hw flX3_21 rfl h15 e32 dX3_reset_86 ?_
  refine lv_iconst (v := (3 : Int32)) hx hb dX3_reset_89 (by decide) ?_
  refine lv_iconst (v := (2 : Int32)) hx hb dX3_reset_90 (by decide) ?_
  obtain ⟨h42, hf⟩ := mChk hf
  obtain ⟨I43, e44, hf⟩ := mLet hf
  refine mst1 B hw h42 dX3_reset_91 (fun H locs hw => ?_)
  rw [← e44] at hw
  rw [hQm, ← Option.some.inj hf]
  exact mrv hx hb hr hlk hw dX3_reset_92
def f_X3_weighTeeth_L5 (K : mK) (v0 : Nat) (v1 : Nat) (v2 : Nat) (I0 : mI) (J0 : mJ) (R0 : mR) : Nat → Int32 → Int32 → Option Int32
  | 0, _, _ => none
  | N + 1, v3, v4 =>
  if (8 : Int32) ≤ v4 then
  some v3
  else
  if K v1 = (0, 1) then
  (R0 v1 4).bind fun x3 =>
  if mIx K x3 1 v4 then
  (f_X8_within K (I0 x3 (v4).toNatClampNeg) (1 : Int32) (3 : Int32) I0 J0 R0).bind fun z6 =>
  if (mb z6) = 0 then
  f_X3_weighTeeth_L5 K v0 v1 v2 I0 J0 R0 N v3 (v4 + (1 : Int32))
  else
  if K v2 = (0, 1) then
  (R0 v2 4).bind fun x10 =>
  if mIx K x10 1 v4 then
  if (I0 x3 (v4).toNatClampNeg) = (I0 x10 (v4).toNatClampNeg) then
  if K v0 = (0, 3) then
  (R0 v0 0).bind fun x15 =>
  if mIx K x15 1 (I0 x3 (v4).toNatClampNeg) then
  f_X3_weighTeeth_L5 K v0 v1 v2 I0 J0 R0 N (v3 + (I0 x15 ((I0 x3 (v4).toNatClampNeg)).toNatClampNeg)) (v4 + (1 : Int32))
  else none
  else none
  else
  f_X3_weighTeeth_L5 K v0 v1 v2 I0 J0 R0 N v3 (v4 + (1 : Int32))
  else none
  else none
  else none
  else none
def f_X3_weighTeeth (K : mK) (a0 : Nat) (a1 : Nat) (a2 : Nat) (I0 : mI) (J0 : mJ) (R0 : mR) : Option Int32 :=
  (f_X3_weighTeeth_L5 K a0 a1 a2 I0 J0 R0 8192 (0 : Int32) (0 : Int32)).bind fun z18 =>
  some z18
set_option maxHeartbeats 4000000 in
set_option maxRecDepth 100000 in
theorem r_X3_weighTeeth (l : Launch) (g : mG) (K : mK) (n : Nat) (hJ : mInj g n) (hO : mOk K n) (a0 : Nat) (a1 : Nat) (a2 : Nat) (I0 : mI) (J0 : mJ) (R0 : mR) (out : Int32) (hf : f_X3_weighTeeth K a0 a1 a2 I0 J0 R0 = some out) : Met l yX3_weighTeeth (mWs yX3_weighTeeth cX3_weighTeeth 6 (some .int)) ({ frames := 1, cells := 0, slots := 0, locals := 22 }) (va_Pc [.ref (g.2.1 a0), .ref (g.2.1 a1), .ref (g.2.1 a2)] (mB g K n I0 J0 R0)) (mQ g K n (some (.int out)) I0 J0 R0) 0 0 (mA g n) := by
  unfold f_X3_weighTeeth at hf
  refine mStart RX3 hJ hO (by decide) rfl (Nat.le_of_ble_eq_true rfl) ?_
  intro p e s m below meth c ls Qm hQm B hr hlk hw hl
  have hx := B.1.1
  have hb := B.1.2.1
  have hl : lv_has ls 6 [(0, .ref (g.2.1 a0)), (1, .ref (g.2.1 a1)), (2, .ref (g.2.1 a2))] := hl
  have L5 : ∀ (N : Nat) (v0 : Nat) (v1 : Nat) (v2 : Nat) (v3 : Int32) (v4 : Int32) (z : Int32) (H : Heap) (locs : List Loc) (ls : Array Slot), f_X3_weighTeeth_L5 K v0 v1 v2 I0 J0 R0 N v3 v4 = some z → mHp g K n s I0 J0 R0 H locs → lv_has ls 6 [(0, .ref (g.2.1 v0)), (1, .ref (g.2.1 v1)), (2, .ref (g.2.1 v2)), (3, .int v3), (4, .int v4)] → (∀ (H : Heap) (locs : List Loc) (ls : Array Slot), mHp g K n s I0 J0 R0 H locs → lv_has ls 6 [(3, .int z)] → W p l e ({ frames := 1, cells := 0, slots := 0, locals := 22 } : Room) s m ([.ref (g.2.1 a0), .ref (g.2.1 a1), .ref (g.2.1 a2)] : List Value).toArray below meth c H locs 0 0 Qm (F0 m 59 ls [])) → W p l e ({ frames := 1, cells := 0, slots := 0, locals := 22 } : Room) s m ([.ref (g.2.1 a0), .ref (g.2.1 a1), .ref (g.2.1 a2)] : List Value).toArray below meth c H locs 0 0 Qm (F0 m 5 ls []) := by
    intro N
    induction N with
    | zero =>
      intro v0 v1 v2 v3 v4  z H locs ls hf hw hl kx
      rw [f_X3_weighTeeth_L5] at hf
      cases hf
    | succ N ih =>
      intro v0 v1 v2 v3 v4  z H locs ls hf hw hl kx
      rw [f_X3_weighTeeth_L5] at hf
      refine lv_iload hx hb dX3_weighTeeth_5 (lv_at hl 4 rfl) ?_
      refine lv_bipush (v := (8 : Int32)) hx hb dX3_weighTeeth_7 (by decide) ?_
      refine lv_icmp_ge (tgt := 59) hx hb dX3_weighTeeth_9 (by decide) (fun c1 => ?_) (fun c1 => ?_)
      · replace hf := mT1 c1 hf
        obtain rfl := Option.some.inj hf
        exact kx _ _ _ hw (lv_sub hl [3] rfl)
      · replace hf := mF1 c1 hf
        refine lv_aload_n hx hb dX3_weighTeeth_12 rfl (lv_at hl 1 rfl) ?_
        obtain ⟨h2, hf⟩ := mChk hf
        obtain ⟨x3, e4, hf⟩ := mBind hf
        refine mgr B hw flX3_44 rfl h2 e4 dX3_weighTeeth_13 ?_
        refine lv_iload hx hb dX3_weighTeeth_16 (lv_at hl 4 rfl) ?_
        obtain ⟨h5, hf⟩ := mChk hf
        refine mld1 B hw h5 dX3_weighTeeth_18 ?_
        refine lv_istore (lv' := [(5, .int (I0 x3 (v4).toNatClampNeg)), (0, .ref (g.2.1 v0)), (1, .ref (g.2.1 v1)), (2, .ref (g.2.1 v2)), (3, .int v3), (4, .int v4)]) hx hb dX3_weighTeeth_19 hl (by decide) rfl (fun ls hl => ?_)
        refine lv_iload hx hb dX3_weighTeeth_21 (lv_at hl 0 rfl) ?_
        refine lv_iconst (v := (1 : Int32)) hx hb dX3_weighTeeth_23 (by decide) ?_
        refine lv_iconst (v := (3 : Int32)) hx hb dX3_weighTeeth_24 (by decide) ?_
        obtain ⟨z6, e7, hf⟩ := mBind hf
        refine mcallN (rest := []) B hw [.int (I0 x3 (v4).toNatClampNeg), .int (1 : Int32), .int (3 : Int32)] clX3_47 (r_X8_within l g K n hJ hO (I0 x3 (v4).toNatClampNeg) (1 : Int32) (3 : Int32) I0 J0 R0 z6 e7) ⟨rfl, rfl, Nat.le_of_ble_eq_true rfl, Nat.le_of_ble_eq_true rfl⟩ rfl hl.1 (Nat.le_of_ble_eq_true rfl) ⟨Nat.zero_le _, Nat.zero_le _⟩ dX3_weighTeeth_25 (fun H locs hw => ?_)
        refine W.eq (g2 := F0 m 28 ls [.int (mb z6)]) rfl ?_
        refine lv_if_eq (tgt := 53) hx hb dX3_weighTeeth_28 (by decide) (fun c8 => ?_) (fun c8 => ?_)
        · replace hf := mT1 c8 hf
          refine lv_iinc (v := (v4 + (1 : Int32))) (lv' := [(4, .int (v4 + (1 : Int32))), (5, .int (I0 x3 (v4).toNatClampNeg)), (0, .ref (g.2.1 v0)), (1, .ref (g.2.1 v1)), (2, .ref (g.2.1 v2)), (3, .int v3)]) hx hb dX3_weighTeeth_53 hl (k := 5) rfl rfl (by decide) rfl (fun ls hl => ?_)
          refine lv_goto (tgt := 5) hx hb dX3_weighTeeth_56 (by decide) ?_
          exact ih v0 v1 v2 v3 (v4 + (1 : Int32)) z _ _ _ hf hw (lv_sub hl [2, 3, 4, 5, 0] rfl) kx
        · replace hf := mF1 c8 hf
          refine lv_iload hx hb dX3_weighTeeth_31 (lv_at hl 0 rfl) ?_
          refine lv_aload_n hx hb dX3_weighTeeth_33 rfl (lv_at hl 3 rfl) ?_
          obtain ⟨h9, hf⟩ := mChk hf
          obtain ⟨x10, e11, hf⟩ := mBind hf
          refine mgr B hw flX3_44 rfl h9 e11 dX3_weighTeeth_34 ?_
          refine lv_iload hx hb dX3_weighTeeth_37 (lv_at hl 5 rfl) ?_
          obtain ⟨h12, hf⟩ := mChk hf
          refine mld1 B hw h12 dX3_weighTeeth_39 ?_
          refine lv_icmp_ne (tgt := 53) hx hb dX3_weighTeeth_40 (by decide) (fun c13 => ?_) (fun c13 => ?_)
          · replace hf := mF1 c13 hf
            refine lv_iinc (v := (v4 + (1 : Int32))) (lv' := [(4, .int (v4 + (1 : Int32))), (5, .int (I0 x3 (v4).toNatClampNeg)), (0, .ref (g.2.1 v0)), (1, .ref (g.2.1 v1)), (2, .ref (g.2.1 v2)), (3, .int v3)]) hx hb dX3_weighTeeth_53 hl (k := 5) rfl rfl (by decide) rfl (fun ls hl => ?_)
            refine lv_goto (tgt := 5) hx hb dX3_weighTeeth_56 (by decide) ?_
            exact ih v0 v1 v2 v3 (v4 + (1 : Int32)) z _ _ _ hf hw (lv_sub hl [2, 3, 4, 5, 0] rfl) kx
          · replace hf := mT1 c13 hf
            refine lv_iload_n hx hb dX3_weighTeeth_43 rfl (lv_at hl 4 rfl) ?_
            refine lv_aload_n hx hb dX3_weighTeeth_44 rfl (lv_at hl 1 rfl) ?_
            obtain ⟨h14, hf⟩ := mChk hf
            obtain ⟨x15, e16, hf⟩ := mBind hf
            refine mgr B hw flX3_9 rfl h14 e16 dX3_weighTeeth_45 ?_
            refine lv_iload hx hb dX3_weighTeeth_48 (lv_at hl 0 rfl) ?_
            obtain ⟨h17, hf⟩ := mChk hf
            refine mld1 B hw h17 dX3_weighTeeth_50 ?_
            refine lv_iadd hx hb dX3_weighTeeth_51 ?_
            refine lv_istore_n (lv' := [(3, .int (v3 + (I0 x15 ((I0 x3 (v4).toNatClampNeg)).toNatClampNeg))), (5, .int (I0 x3 (v4).toNatClampNeg)), (0, .ref (g.2.1 v0)), (1, .ref (g.2.1 v1)), (2, .ref (g.2.1 v2)), (4, .int v4)]) hx hb dX3_weighTeeth_52 rfl hl (by decide) rfl (fun ls hl => ?_)
            refine lv_iinc (v := (v4 + (1 : Int32))) (lv' := [(4, .int (v4 + (1 : Int32))), (3, .int (v3 + (I0 x15 ((I0 x3 (v4).toNatClampNeg)).toNatClampNeg))), (5, .int (I0 x3 (v4).toNatClampNeg)), (0, .ref (g.2.1 v0)), (1, .ref (g.2.1 v1)), (2, .ref (g.2.1 v2))]) hx hb dX3_weighTeeth_53 hl (k := 5) rfl rfl (by decide) rfl (fun ls hl => ?_)
            refine lv_goto (tgt := 5) hx hb dX3_weighTeeth_56 (by decide) ?_
            exact ih v0 v1 v2 (v3 + (I0 x15 ((I0 x3 (v4).toNatClampNeg)).toNatClampNeg)) (v4 + (1 : Int32)) z _ _ _ hf hw (lv_sub hl [3, 4, 5, 1, 0] rfl) kx
  refine lv_iconst (v := (0 : Int32)) hx hb dX3_weighTeeth_0 (by decide) ?_
  refine lv_istore_n (lv' := [(3, .int (0 : Int32)), (0, .ref (g.2.1 a0)), (1, .ref (g.2.1 a1)), (2, .ref (g.2.1 a2))]) hx hb dX3_weighTeeth_1 rfl hl (by decide) rfl (fun ls hl => ?_)
  refine lv_iconst (v := (0 : Int32)) hx hb dX3_weighTeeth_2 (by decide) ?_
  refine lv_istore (lv' := [(4, .int (0 : Int32)), (3, .int (0 : Int32)), (0, .ref (g.2.1 a0)), (1, .ref (g.2.1 a1)), (2, .ref (g.2.1 a2))]) hx hb dX3_weighTeeth_3 hl (by decide) rfl (fun ls hl => ?_)
  obtain ⟨z18, e19, hf⟩ := mBind hf
  refine L5 8192 a0 a1 a2 (0 : Int32) (0 : Int32) z18 _ _ _ e19 hw (lv_sub hl [2, 3, 4, 1, 0] rfl) (fun H locs ls hw hl => ?_)
  refine lv_iload_n hx hb dX3_weighTeeth_59 rfl (lv_at hl 0 rfl) ?_
  rw [hQm, ← Option.some.inj hf]
  exact mri hx hb hr hlk hw dX3_weighTeeth_60
