def f_X9_tooth (K : mK) (a0 : Nat) (a1 : Int32) (a2 : Int32) (a3 : Int32) (a4 : Int32) (I0 : mI) (J0 : mJ) (R0 : mR) : Option (Bool × mI) :=
  if K a0 = (0, 9) then
  (f_X9_isFile K a0 a1 a2 I0 J0 R0).bind fun z2 =>
  if (mb z2) = 0 then
  some (false, I0)
  else
  (f_X9_isIn K a3 (0 : Int32) (7 : Int32) I0 J0 R0).bind fun z5 =>
  if (mb z5) = 0 then
  some (false, I0)
  else
  (f_X9_isIn K a4 (0 : Int32) (3 : Int32) I0 J0 R0).bind fun z8 =>
  if (mb z8) = 0 then
  some (false, I0)
  else
  (f_X9_mends K a0 a1 a2 ((1 : Int32) + a3) a4 I0 J0 R0).bind fun z11 =>
  if (mb z11.1) = 0 then
  some (false, z11.2)
  else
  some (true, z11.2)
  else none
set_option maxHeartbeats 4000000 in
set_option maxRecDepth 100000 in
theorem r_X9_tooth (l : Launch) (g : mG) (K : mK) (n : Nat) (hJ : mInj g n) (hO : mOk K n) (a0 : Nat) (a1 : Int32) (a2 : Int32) (a3 : Int32) (a4 : Int32) (I0 : mI) (J0 : mJ) (R0 : mR) (out : (Bool × mI)) (hf : f_X9_tooth K a0 a1 a2 a3 a4 I0 J0 R0 = some out) : Met l yX9_tooth (mWs yX9_tooth cX9_tooth 5 (some .boolean)) ({ frames := 2, cells := 0, slots := 0, locals := 44 }) (va_Pc [.ref (g.2.1 a0), .int a1, .int a2, .int a3, .int a4] (mB g K n I0 J0 R0)) (mQ g K n (some (.int (mb out.1))) out.2 J0 R0) 0 0 (mA g n) := by
  unfold f_X9_tooth at hf
  refine mStart RX9 hJ hO (by decide) rfl (Nat.le_of_ble_eq_true rfl) ?_
  intro p e s m below meth c ls Qm hQm B hr hlk hw hl
  have hx := B.1.1
  have hb := B.1.2.1
  have hl : lv_has ls 5 [(0, .ref (g.2.1 a0)), (1, .int a1), (2, .int a2), (3, .int a3), (4, .int a4)] := hl
  refine lv_aload_n hx hb dX9_tooth_0 rfl (lv_at hl 0 rfl) ?_
  refine lv_iload_n hx hb dX9_tooth_1 rfl (lv_at hl 1 rfl) ?_
  refine lv_iload_n hx hb dX9_tooth_2 rfl (lv_at hl 2 rfl) ?_
  obtain ⟨h1, hf⟩ := mChk hf
  obtain ⟨z2, e3, hf⟩ := mBind hf
  refine mcallV (rest := []) (ci := 9) B hw [.int a1, .int a2] clX9_68 rfl h1 (r_X9_isFile l g K n hJ hO a0 a1 a2 I0 J0 R0 z2 e3) ⟨rfl, rfl, Nat.le_of_ble_eq_true rfl, Nat.le_of_ble_eq_true rfl⟩ rfl hl.1 (Nat.le_of_ble_eq_true rfl) ⟨Nat.zero_le _, Nat.zero_le _⟩ dX9_tooth_3 (fun H locs hw => ?_)
  refine W.eq (g2 := F0 m 6 ls [.int (mb z2)]) rfl ?_
  refine lv_if_eq (tgt := 47) hx hb dX9_tooth_6 (by decide) (fun c4 => ?_) (fun c4 => ?_)
  · replace hf := mT1 c4 hf
    refine lv_iconst (v := (0 : Int32)) hx hb dX9_tooth_47 (by decide) ?_
    rw [hQm, ← Option.some.inj hf]
    exact mrz (v := false) hx hb hr hlk hw dX9_tooth_48
  · replace hf := mF1 c4 hf
    refine lv_iload_n hx hb dX9_tooth_9 rfl (lv_at hl 3 rfl) ?_
    refine lv_iconst (v := (0 : Int32)) hx hb dX9_tooth_10 (by decide) ?_
    refine lv_bipush (v := (7 : Int32)) hx hb dX9_tooth_11 (by decide) ?_
    obtain ⟨z5, e6, hf⟩ := mBind hf
    refine mcallS (rest := []) B hw [.int a3, .int (0 : Int32), .int (7 : Int32)] clX9_64 (r_X9_isIn l g K n hJ hO a3 (0 : Int32) (7 : Int32) I0 J0 R0 z5 e6) ⟨rfl, rfl, Nat.le_of_ble_eq_true rfl, Nat.le_of_ble_eq_true rfl⟩ rfl hl.1 (Nat.le_of_ble_eq_true rfl) ⟨Nat.zero_le _, Nat.zero_le _⟩ dX9_tooth_13 (fun H locs hw => ?_)
    refine W.eq (g2 := F0 m 16 ls [.int (mb z5)]) rfl ?_
    refine lv_if_eq (tgt := 47) hx hb dX9_tooth_16 (by decide) (fun c7 => ?_) (fun c7 => ?_)
    · replace hf := mT1 c7 hf
      refine lv_iconst (v := (0 : Int32)) hx hb dX9_tooth_47 (by decide) ?_
      rw [hQm, ← Option.some.inj hf]
      exact mrz (v := false) hx hb hr hlk hw dX9_tooth_48
    · replace hf := mF1 c7 hf
      refine lv_iload hx hb dX9_tooth_19 (lv_at hl 4 rfl) ?_
      refine lv_iconst (v := (0 : Int32)) hx hb dX9_tooth_21 (by decide) ?_
      refine lv_iconst (v := (3 : Int32)) hx hb dX9_tooth_22 (by decide) ?_
      obtain ⟨z8, e9, hf⟩ := mBind hf
      refine mcallS (rest := []) B hw [.int a4, .int (0 : Int32), .int (3 : Int32)] clX9_64 (r_X9_isIn l g K n hJ hO a4 (0 : Int32) (3 : Int32) I0 J0 R0 z8 e9) ⟨rfl, rfl, Nat.le_of_ble_eq_true rfl, Nat.le_of_ble_eq_true rfl⟩ rfl hl.1 (Nat.le_of_ble_eq_true rfl) ⟨Nat.zero_le _, Nat.zero_le _⟩ dX9_tooth_23 (fun H locs hw => ?_)
      refine W.eq (g2 := F0 m 26 ls [.int (mb z8)]) rfl ?_
      refine lv_if_eq (tgt := 47) hx hb dX9_tooth_26 (by decide) (fun c10 => ?_) (fun c10 => ?_)
      · replace hf := mT1 c10 hf
        refine lv_iconst (v := (0 : Int32)) hx hb dX9_tooth_47 (by decide) ?_
        rw [hQm, ← Option.some.inj hf]
        exact mrz (v := false) hx hb hr hlk hw dX9_tooth_48
      · replace hf := mF1 c10 hf
        refine lv_aload_n hx hb dX9_tooth_29 rfl (lv_at hl 0 rfl) ?_
        refine lv_iload_n hx hb dX9_tooth_30 rfl (lv_at hl 1 rfl) ?_
        refine lv_iload_n hx hb dX9_tooth_31 rfl (lv_at hl 2 rfl) ?_
        refine lv_iconst (v := (1 : Int32)) hx hb dX9_tooth_32 (by decide) ?_
        refine lv_iload_n hx hb dX9_tooth_33 rfl (lv_at hl 3 rfl) ?_
        refine lv_iadd hx hb dX9_tooth_34 ?_
        refine lv_iload hx hb dX9_tooth_35 (lv_at hl 4 rfl) ?_
        obtain ⟨z11, e12, hf⟩ := mBind hf
        refine mcallV (rest := []) (ci := 9) B hw [.int a1, .int a2, .int ((1 : Int32) + a3), .int a4] clX9_72 rfl h1 (r_X9_mends l g K n hJ hO a0 a1 a2 ((1 : Int32) + a3) a4 I0 J0 R0 z11 e12) ⟨rfl, rfl, Nat.le_of_ble_eq_true rfl, Nat.le_of_ble_eq_true rfl⟩ rfl hl.1 (Nat.le_of_ble_eq_true rfl) ⟨Nat.zero_le _, Nat.zero_le _⟩ dX9_tooth_37 (fun H locs hw => ?_)
        refine W.eq (g2 := F0 m 40 ls [.int (mb z11.1)]) rfl ?_
        refine lv_if_eq (tgt := 47) hx hb dX9_tooth_40 (by decide) (fun c13 => ?_) (fun c13 => ?_)
        · replace hf := mT1 c13 hf
          refine lv_iconst (v := (0 : Int32)) hx hb dX9_tooth_47 (by decide) ?_
          rw [hQm, ← Option.some.inj hf]
          exact mrz (v := false) hx hb hr hlk hw dX9_tooth_48
        · replace hf := mF1 c13 hf
          refine lv_iconst (v := (1 : Int32)) hx hb dX9_tooth_43 (by decide) ?_
          refine lv_goto (tgt := 48) hx hb dX9_tooth_44 (by decide) ?_
          rw [hQm, ← Option.some.inj hf]
          exact mrz (v := true) hx hb hr hlk hw dX9_tooth_48
def f_X9_mark (K : mK) (a0 : Nat) (a1 : Int32) (a2 : Int32) (a3 : Int32) (a4 : Int32) (I0 : mI) (J0 : mJ) (R0 : mR) : Option (Bool × mI) :=
  if K a0 = (0, 9) then
  (f_X9_isFile K a0 a1 a2 I0 J0 R0).bind fun z2 =>
  if (mb z2) = 0 then
  some (false, I0)
  else
  (f_X9_isIn K a3 (0 : Int32) (3 : Int32) I0 J0 R0).bind fun z5 =>
  if (mb z5) = 0 then
  some (false, I0)
  else
  (f_X9_isIn K a4 (0 : Int32) (9 : Int32) I0 J0 R0).bind fun z8 =>
  if (mb z8) = 0 then
  some (false, I0)
  else
  (f_X9_mends K a0 a1 a2 ((9 : Int32) + a3) a4 I0 J0 R0).bind fun z11 =>
  if (mb z11.1) = 0 then
  some (false, z11.2)
  else
  some (true, z11.2)
  else none
set_option maxHeartbeats 4000000 in
set_option maxRecDepth 100000 in
theorem r_X9_mark (l : Launch) (g : mG) (K : mK) (n : Nat) (hJ : mInj g n) (hO : mOk K n) (a0 : Nat) (a1 : Int32) (a2 : Int32) (a3 : Int32) (a4 : Int32) (I0 : mI) (J0 : mJ) (R0 : mR) (out : (Bool × mI)) (hf : f_X9_mark K a0 a1 a2 a3 a4 I0 J0 R0 = some out) : Met l yX9_mark (mWs yX9_mark cX9_mark 5 (some .boolean)) ({ frames := 2, cells := 0, slots := 0, locals := 44 }) (va_Pc [.ref (g.2.1 a0), .int a1, .int a2, .int a3, .int a4] (mB g K n I0 J0 R0)) (mQ g K n (some (.int (mb out.1))) out.2 J0 R0) 0 0 (mA g n) := by
  unfold f_X9_mark at hf
  refine mStart RX9 hJ hO (by decide) rfl (Nat.le_of_ble_eq_true rfl) ?_
  intro p e s m below meth c ls Qm hQm B hr hlk hw hl
  have hx := B.1.1
  have hb := B.1.2.1
  have hl : lv_has ls 5 [(0, .ref (g.2.1 a0)), (1, .int a1), (2, .int a2), (3, .int a3), (4, .int a4)] := hl
  refine lv_aload_n hx hb dX9_mark_0 rfl (lv_at hl 0 rfl) ?_
  refine lv_iload_n hx hb dX9_mark_1 rfl (lv_at hl 1 rfl) ?_
  refine lv_iload_n hx hb dX9_mark_2 rfl (lv_at hl 2 rfl) ?_
  obtain ⟨h1, hf⟩ := mChk hf
  obtain ⟨z2, e3, hf⟩ := mBind hf
  refine mcallV (rest := []) (ci := 9) B hw [.int a1, .int a2] clX9_68 rfl h1 (r_X9_isFile l g K n hJ hO a0 a1 a2 I0 J0 R0 z2 e3) ⟨rfl, rfl, Nat.le_of_ble_eq_true rfl, Nat.le_of_ble_eq_true rfl⟩ rfl hl.1 (Nat.le_of_ble_eq_true rfl) ⟨Nat.zero_le _, Nat.zero_le _⟩ dX9_mark_3 (fun H locs hw => ?_)
  refine W.eq (g2 := F0 m 6 ls [.int (mb z2)]) rfl ?_
  refine lv_if_eq (tgt := 48) hx hb dX9_mark_6 (by decide) (fun c4 => ?_) (fun c4 => ?_)
  · replace hf := mT1 c4 hf
    refine lv_iconst (v := (0 : Int32)) hx hb dX9_mark_48 (by decide) ?_
    rw [hQm, ← Option.some.inj hf]
    exact mrz (v := false) hx hb hr hlk hw dX9_mark_49
  · replace hf := mF1 c4 hf
    refine lv_iload_n hx hb dX9_mark_9 rfl (lv_at hl 3 rfl) ?_
    refine lv_iconst (v := (0 : Int32)) hx hb dX9_mark_10 (by decide) ?_
    refine lv_iconst (v := (3 : Int32)) hx hb dX9_mark_11 (by decide) ?_
    obtain ⟨z5, e6, hf⟩ := mBind hf
    refine mcallS (rest := []) B hw [.int a3, .int (0 : Int32), .int (3 : Int32)] clX9_64 (r_X9_isIn l g K n hJ hO a3 (0 : Int32) (3 : Int32) I0 J0 R0 z5 e6) ⟨rfl, rfl, Nat.le_of_ble_eq_true rfl, Nat.le_of_ble_eq_true rfl⟩ rfl hl.1 (Nat.le_of_ble_eq_true rfl) ⟨Nat.zero_le _, Nat.zero_le _⟩ dX9_mark_12 (fun H locs hw => ?_)
    refine W.eq (g2 := F0 m 15 ls [.int (mb z5)]) rfl ?_
    refine lv_if_eq (tgt := 48) hx hb dX9_mark_15 (by decide) (fun c7 => ?_) (fun c7 => ?_)
    · replace hf := mT1 c7 hf
      refine lv_iconst (v := (0 : Int32)) hx hb dX9_mark_48 (by decide) ?_
      rw [hQm, ← Option.some.inj hf]
      exact mrz (v := false) hx hb hr hlk hw dX9_mark_49
    · replace hf := mF1 c7 hf
      refine lv_iload hx hb dX9_mark_18 (lv_at hl 4 rfl) ?_
      refine lv_iconst (v := (0 : Int32)) hx hb dX9_mark_20 (by decide) ?_
      refine lv_bipush (v := (9 : Int32)) hx hb dX9_mark_21 (by decide) ?_
      obtain ⟨z8, e9, hf⟩ := mBind hf
      refine mcallS (rest := []) B hw [.int a4, .int (0 : Int32), .int (9 : Int32)] clX9_64 (r_X9_isIn l g K n hJ hO a4 (0 : Int32) (9 : Int32) I0 J0 R0 z8 e9) ⟨rfl, rfl, Nat.le_of_ble_eq_true rfl, Nat.le_of_ble_eq_true rfl⟩ rfl hl.1 (Nat.le_of_ble_eq_true rfl) ⟨Nat.zero_le _, Nat.zero_le _⟩ dX9_mark_23 (fun H locs hw => ?_)
      refine W.eq (g2 := F0 m 26 ls [.int (mb z8)]) rfl ?_
      refine lv_if_eq (tgt := 48) hx hb dX9_mark_26 (by decide) (fun c10 => ?_) (fun c10 => ?_)
      · replace hf := mT1 c10 hf
        refine lv_iconst (v := (0 : Int32)) hx hb dX9_mark_48 (by decide) ?_
        rw [hQm, ← Option.some.inj hf]
        exact mrz (v := false) hx hb hr hlk hw dX9_mark_49
      · replace hf := mF1 c10 hf
        refine lv_aload_n hx hb dX9_mark_29 rfl (lv_at hl 0 rfl) ?_
        refine lv_iload_n hx hb dX9_mark_30 rfl (lv_at hl 1 rfl) ?_
        refine lv_iload_n hx hb dX9_mark_31 rfl (lv_at hl 2 rfl) ?_
        refine lv_bipush (v := (9 : Int32)) hx hb dX9_mark_32 (by decide) ?_
        refine lv_iload_n hx hb dX9_mark_34 rfl (lv_at hl 3 rfl) ?_
        refine lv_iadd hx hb dX9_mark_35 ?_
        refine lv_iload hx hb dX9_mark_36 (lv_at hl 4 rfl) ?_
        obtain ⟨z11, e12, hf⟩ := mBind hf
        refine mcallV (rest := []) (ci := 9) B hw [.int a1, .int a2, .int ((9 : Int32) + a3), .int a4] clX9_72 rfl h1 (r_X9_mends l g K n hJ hO a0 a1 a2 ((9 : Int32) + a3) a4 I0 J0 R0 z11 e12) ⟨rfl, rfl, Nat.le_of_ble_eq_true rfl, Nat.le_of_ble_eq_true rfl⟩ rfl hl.1 (Nat.le_of_ble_eq_true rfl) ⟨Nat.zero_le _, Nat.zero_le _⟩ dX9_mark_38 (fun H locs hw => ?_)
        refine W.eq (g2 := F0 m 41 ls [.int (mb z11.1)]) rfl ?_
        refine lv_if_eq (tgt := 48) hx hb dX9_mark_41 (by decide) (fun c13 => ?_) (fun c13 => ?_)
        · replace hf := mT1 c13 hf
          refine lv_iconst (v := (0 : Int32)) hx hb dX9_mark_48 (by decide) ?_
          rw [hQm, ← Option.some.inj hf]
          exact mrz (v := false) hx hb hr hlk hw dX9_mark_49
        · replace hf := mF1 c13 hf
          refine lv_iconst (v := (1 : Int32)) hx hb dX9_mark_44 (by decide) ?_
          refine lv_goto (tgt := 49) hx hb dX9_mark_45 (by decide) ?_
          rw [hQm, ← Option.some.inj hf]
          exact mrz (v := true) hx hb hr hlk hw dX9_mark_49
def f_X9_tissue (K : mK) (a0 : Nat) (a1 : Int32) (a2 : Int32) (a3 : Int32) (a4 : Int32) (a5 : Int32) (I0 : mI) (J0 : mJ) (R0 : mR) : Option (Bool × mI) :=
  if a1 = (2 : Int32) then
  if K a0 = (0, 9) then
  (f_X9_isFile K a0 (0 : Int32) a2 I0 J0 R0).bind fun z33 =>
  if (mb z33) = 0 then
  some (false, I0)
  else
  (f_X9_isIn K a3 (0 : Int32) (2 : Int32) I0 J0 R0).bind fun z36 =>
  if (mb z36) = 0 then
  some (false, I0)
  else
  if a4 = 0 then
  if a4 = 0 then
  (f_X9_mends K a0 (0 : Int32) a2 ((16 : Int32) + a3) (0 : Int32) I0 J0 R0).bind fun z45 =>
  some (z45.1, z45.2)
  else
  (f_X9_mends K a0 (0 : Int32) a2 ((16 : Int32) + a3) (((10 : Int32) * (imin a4 a5)) + (imax a4 a5)) I0 J0 R0).bind fun z43 =>
  some (z43.1, z43.2)
  else
  (f_X9_isIn K a4 (1 : Int32) (9 : Int32) I0 J0 R0).bind fun z47 =>
  if (mb z47) = 0 then
  some (false, I0)
  else
  (f_X9_isIn K a5 (1 : Int32) (9 : Int32) I0 J0 R0).bind fun z50 =>
  if (mb z50) = 0 then
  some (false, I0)
  else
  if a4 = 0 then
  (f_X9_mends K a0 (0 : Int32) a2 ((16 : Int32) + a3) (0 : Int32) I0 J0 R0).bind fun z58 =>
  some (z58.1, z58.2)
  else
  (f_X9_mends K a0 (0 : Int32) a2 ((16 : Int32) + a3) (((10 : Int32) * (imin a4 a5)) + (imax a4 a5)) I0 J0 R0).bind fun z56 =>
  some (z56.1, z56.2)
  else none
  else
  if K a0 = (0, 9) then
  (f_X9_isFile K a0 a1 a2 I0 J0 R0).bind fun z4 =>
  if (mb z4) = 0 then
  some (false, I0)
  else
  (f_X9_isIn K a3 (0 : Int32) (2 : Int32) I0 J0 R0).bind fun z7 =>
  if (mb z7) = 0 then
  some (false, I0)
  else
  if a4 = 0 then
  if a4 = 0 then
  (f_X9_mends K a0 a1 a2 ((13 : Int32) + a3) (0 : Int32) I0 J0 R0).bind fun z16 =>
  some (z16.1, z16.2)
  else
  (f_X9_mends K a0 a1 a2 ((13 : Int32) + a3) (((10 : Int32) * (imin a4 a5)) + (imax a4 a5)) I0 J0 R0).bind fun z14 =>
  some (z14.1, z14.2)
  else
  (f_X9_isIn K a4 (1 : Int32) (9 : Int32) I0 J0 R0).bind fun z18 =>
  if (mb z18) = 0 then
  some (false, I0)
  else
  (f_X9_isIn K a5 (1 : Int32) (9 : Int32) I0 J0 R0).bind fun z21 =>
  if (mb z21) = 0 then
  some (false, I0)
  else
  if a4 = 0 then
  (f_X9_mends K a0 a1 a2 ((13 : Int32) + a3) (0 : Int32) I0 J0 R0).bind fun z29 =>
  some (z29.1, z29.2)
  else
  (f_X9_mends K a0 a1 a2 ((13 : Int32) + a3) (((10 : Int32) * (imin a4 a5)) + (imax a4 a5)) I0 J0 R0).bind fun z27 =>
  some (z27.1, z27.2)
  else none
set_option maxHeartbeats 4000000 in
set_option maxRecDepth 100000 in
theorem r_X9_tissue (l : Launch) (g : mG) (K : mK) (n : Nat) (hJ : mInj g n) (hO : mOk K n) (a0 : Nat) (a1 : Int32) (a2 : Int32) (a3 : Int32) (a4 : Int32) (a5 : Int32) (I0 : mI) (J0 : mJ) (R0 : mR) (out : (Bool × mI)) (hf : f_X9_tissue K a0 a1 a2 a3 a4 a5 I0 J0 R0 = some out) : Met l yX9_tissue (mWs yX9_tissue cX9_tissue 7 (some .boolean)) ({ frames := 2, cells := 0, slots := 0, locals := 44 }) (va_Pc [.ref (g.2.1 a0), .int a1, .int a2, .int a3, .int a4, .int a5] (mB g K n I0 J0 R0)) (mQ g K n (some (.int (mb out.1))) out.2 J0 R0) 0 0 (mA g n) := by
  unfold f_X9_tissue at hf
  refine mStart RX9 hJ hO (by decide) rfl (Nat.le_of_ble_eq_true rfl) ?_
  intro p e s m below meth c ls Qm hQm B hr hlk hw hl
  have hx := B.1.1
  have hb := B.1.2.1
  have hl : lv_has ls 7 [(0, .ref (g.2.1 a0)), (1, .int a1), (2, .int a2), (3, .int a3), (4, .int a4), (5, .int a5)] := hl
  refine lv_iload_n hx hb dX9_tissue_0 rfl (lv_at hl 1 rfl) ?_
  refine lv_iconst (v := (2 : Int32)) hx hb dX9_tissue_1 (by decide) ?_
  refine lv_icmp_ne (tgt := 9) hx hb dX9_tissue_2 (by decide) (fun c1 => ?_) (fun c1 => ?_)
  · replace hf := mF1 c1 hf
    refine lv_iconst (v := (0 : Int32)) hx hb dX9_tissue_9 (by decide) ?_
    refine lv_istore (lv' := [(6, .int (0 : Int32)), (0, .ref (g.2.1 a0)), (1, .int a1), (2, .int a2), (3, .int a3), (4, .int a4), (5, .int a5)]) hx hb dX9_tissue_10 hl (by decide) rfl (fun ls hl => ?_)
    refine lv_aload_n hx hb dX9_tissue_12 rfl (lv_at hl 1 rfl) ?_
    refine lv_iload hx hb dX9_tissue_13 (lv_at hl 0 rfl) ?_
    refine lv_if_eq (tgt := 22) hx hb dX9_tissue_15 (by decide) (fun _ => ?_) (fun c => absurd (by decide) c)
    refine lv_iload_n hx hb dX9_tissue_22 rfl (lv_at hl 2 rfl) ?_
    refine lv_iload_n hx hb dX9_tissue_23 rfl (lv_at hl 3 rfl) ?_
    obtain ⟨h3, hf⟩ := mChk hf
    obtain ⟨z4, e5, hf⟩ := mBind hf
    refine mcallV (rest := []) (ci := 9) B hw [.int a1, .int a2] clX9_68 rfl h3 (r_X9_isFile l g K n hJ hO a0 a1 a2 I0 J0 R0 z4 e5) ⟨rfl, rfl, Nat.le_of_ble_eq_true rfl, Nat.le_of_ble_eq_true rfl⟩ rfl hl.1 (Nat.le_of_ble_eq_true rfl) ⟨Nat.zero_le _, Nat.zero_le _⟩ dX9_tissue_24 (fun H locs hw => ?_)
    refine W.eq (g2 := F0 m 27 ls [.int (mb z4)]) rfl ?_
    refine lv_if_eq (tgt := 66) hx hb dX9_tissue_27 (by decide) (fun c6 => ?_) (fun c6 => ?_)
    · replace hf := mT1 c6 hf
      refine lv_iconst (v := (0 : Int32)) hx hb dX9_tissue_66 (by decide) ?_
      rw [hQm, ← Option.some.inj hf]
      exact mrz (v := false) hx hb hr hlk hw dX9_tissue_67
    · replace hf := mF1 c6 hf
      refine lv_iload_n hx hb dX9_tissue_30 rfl (lv_at hl 4 rfl) ?_
      refine lv_iconst (v := (0 : Int32)) hx hb dX9_tissue_31 (by decide) ?_
      refine lv_iconst (v := (2 : Int32)) hx hb dX9_tissue_32 (by decide) ?_
      obtain ⟨z7, e8, hf⟩ := mBind hf
      refine mcallS (rest := []) B hw [.int a3, .int (0 : Int32), .int (2 : Int32)] clX9_64 (r_X9_isIn l g K n hJ hO a3 (0 : Int32) (2 : Int32) I0 J0 R0 z7 e8) ⟨rfl, rfl, Nat.le_of_ble_eq_true rfl, Nat.le_of_ble_eq_true rfl⟩ rfl hl.1 (Nat.le_of_ble_eq_true rfl) ⟨Nat.zero_le _, Nat.zero_le _⟩ dX9_tissue_33 (fun H locs hw => ?_)
      refine W.eq (g2 := F0 m 36 ls [.int (mb z7)]) rfl ?_
      refine lv_if_eq (tgt := 66) hx hb dX9_tissue_36 (by decide) (fun c9 => ?_) (fun c9 => ?_)
      · replace hf := mT1 c9 hf
        refine lv_iconst (v := (0 : Int32)) hx hb dX9_tissue_66 (by decide) ?_
        rw [hQm, ← Option.some.inj hf]
        exact mrz (v := false) hx hb hr hlk hw dX9_tissue_67
      · replace hf := mF1 c9 hf
        refine lv_iload hx hb dX9_tissue_39 (lv_at hl 5 rfl) ?_
        refine lv_if_eq (tgt := 68) hx hb dX9_tissue_41 (by decide) (fun c10 => ?_) (fun c10 => ?_)
        · replace hf := mT1 c10 hf
          refine lv_aload_n hx hb dX9_tissue_68 rfl (lv_at hl 1 rfl) ?_
          refine lv_iload hx hb dX9_tissue_69 (lv_at hl 0 rfl) ?_
          refine lv_if_eq (tgt := 78) hx hb dX9_tissue_71 (by decide) (fun _ => ?_) (fun c => absurd (by decide) c)
          refine lv_iload_n hx hb dX9_tissue_78 rfl (lv_at hl 2 rfl) ?_
          refine lv_iload_n hx hb dX9_tissue_79 rfl (lv_at hl 3 rfl) ?_
          refine lv_iload hx hb dX9_tissue_80 (lv_at hl 0 rfl) ?_
          refine lv_if_eq (tgt := 90) hx hb dX9_tissue_82 (by decide) (fun _ => ?_) (fun c => absurd (by decide) c)
          refine lv_bipush (v := (13 : Int32)) hx hb dX9_tissue_90 (by decide) ?_
          refine lv_iload_n hx hb dX9_tissue_92 rfl (lv_at hl 4 rfl) ?_
          refine lv_iadd hx hb dX9_tissue_93 ?_
          refine lv_iload hx hb dX9_tissue_94 (lv_at hl 5 rfl) ?_
          refine lv_if_ne (tgt := 103) hx hb dX9_tissue_96 (by decide) (fun c13 => ?_) (fun c13 => ?_)
          · replace hf := mF1 c13 hf
            refine lv_bipush (v := (10 : Int32)) hx hb dX9_tissue_103 (by decide) ?_
            refine lv_iload hx hb dX9_tissue_105 (lv_at hl 5 rfl) ?_
            refine lv_iload hx hb dX9_tissue_107 (lv_at hl 6 rfl) ?_
            refine mmmin B hl.1 mhX9_76 (Nat.le_of_ble_eq_true rfl) (Nat.le_of_ble_eq_true rfl) (Nat.zero_le _) (Nat.zero_le _) dX9_tissue_109 ?_
            refine lv_imul hx hb dX9_tissue_112 ?_
            refine lv_iload hx hb dX9_tissue_113 (lv_at hl 5 rfl) ?_
            refine lv_iload hx hb dX9_tissue_115 (lv_at hl 6 rfl) ?_
            refine mmmax B hl.1 mhX9_82 (Nat.le_of_ble_eq_true rfl) (Nat.le_of_ble_eq_true rfl) (Nat.zero_le _) (Nat.zero_le _) dX9_tissue_117 ?_
            refine lv_iadd hx hb dX9_tissue_120 ?_
            obtain ⟨z14, e15, hf⟩ := mBind hf
            refine mcallV (rest := []) (ci := 9) B hw [.int a1, .int a2, .int ((13 : Int32) + a3), .int (((10 : Int32) * (imin a4 a5)) + (imax a4 a5))] clX9_72 rfl h3 (r_X9_mends l g K n hJ hO a0 a1 a2 ((13 : Int32) + a3) (((10 : Int32) * (imin a4 a5)) + (imax a4 a5)) I0 J0 R0 z14 e15) ⟨rfl, rfl, Nat.le_of_ble_eq_true rfl, Nat.le_of_ble_eq_true rfl⟩ rfl hl.1 (Nat.le_of_ble_eq_true rfl) ⟨Nat.zero_le _, Nat.zero_le _⟩ dX9_tissue_121 (fun H locs hw => ?_)
            refine W.eq (g2 := F0 m 124 ls [.int (mb z14.1)]) rfl ?_
            rw [hQm, ← Option.some.inj hf]
            exact mrz (v := z14.1) hx hb hr hlk hw dX9_tissue_124
          · replace hf := mT1 c13 hf
            refine lv_iconst (v := (0 : Int32)) hx hb dX9_tissue_99 (by decide) ?_
            refine lv_goto (tgt := 121) hx hb dX9_tissue_100 (by decide) ?_
            obtain ⟨z16, e17, hf⟩ := mBind hf
            refine mcallV (rest := []) (ci := 9) B hw [.int a1, .int a2, .int ((13 : Int32) + a3), .int (0 : Int32)] clX9_72 rfl h3 (r_X9_mends l g K n hJ hO a0 a1 a2 ((13 : Int32) + a3) (0 : Int32) I0 J0 R0 z16 e17) ⟨rfl, rfl, Nat.le_of_ble_eq_true rfl, Nat.le_of_ble_eq_true rfl⟩ rfl hl.1 (Nat.le_of_ble_eq_true rfl) ⟨Nat.zero_le _, Nat.zero_le _⟩ dX9_tissue_121 (fun H locs hw => ?_)
            refine W.eq (g2 := F0 m 124 ls [.int (mb z16.1)]) rfl ?_
            rw [hQm, ← Option.some.inj hf]
            exact mrz (v := z16.1) hx hb hr hlk hw dX9_tissue_124
        · replace hf := mF1 c10 hf
          refine lv_iload hx hb dX9_tissue_44 (lv_at hl 5 rfl) ?_
          refine lv_iconst (v := (1 : Int32)) hx hb dX9_tissue_46 (by decide) ?_
          refine lv_bipush (v := (9 : Int32)) hx hb dX9_tissue_47 (by decide) ?_
          obtain ⟨z18, e19, hf⟩ := mBind hf
          refine mcallS (rest := []) B hw [.int a4, .int (1 : Int32), .int (9 : Int32)] clX9_64 (r_X9_isIn l g K n hJ hO a4 (1 : Int32) (9 : Int32) I0 J0 R0 z18 e19) ⟨rfl, rfl, Nat.le_of_ble_eq_true rfl, Nat.le_of_ble_eq_true rfl⟩ rfl hl.1 (Nat.le_of_ble_eq_true rfl) ⟨Nat.zero_le _, Nat.zero_le _⟩ dX9_tissue_49 (fun H locs hw => ?_)
          refine W.eq (g2 := F0 m 52 ls [.int (mb z18)]) rfl ?_
          refine lv_if_eq (tgt := 66) hx hb dX9_tissue_52 (by decide) (fun c20 => ?_) (fun c20 => ?_)
          · replace hf := mT1 c20 hf
            refine lv_iconst (v := (0 : Int32)) hx hb dX9_tissue_66 (by decide) ?_
            rw [hQm, ← Option.some.inj hf]
            exact mrz (v := false) hx hb hr hlk hw dX9_tissue_67
          · replace hf := mF1 c20 hf
            refine lv_iload hx hb dX9_tissue_55 (lv_at hl 6 rfl) ?_
            refine lv_iconst (v := (1 : Int32)) hx hb dX9_tissue_57 (by decide) ?_
            refine lv_bipush (v := (9 : Int32)) hx hb dX9_tissue_58 (by decide) ?_
            obtain ⟨z21, e22, hf⟩ := mBind hf
            refine mcallS (rest := []) B hw [.int a5, .int (1 : Int32), .int (9 : Int32)] clX9_64 (r_X9_isIn l g K n hJ hO a5 (1 : Int32) (9 : Int32) I0 J0 R0 z21 e22) ⟨rfl, rfl, Nat.le_of_ble_eq_true rfl, Nat.le_of_ble_eq_true rfl⟩ rfl hl.1 (Nat.le_of_ble_eq_true rfl) ⟨Nat.zero_le _, Nat.zero_le _⟩ dX9_tissue_60 (fun H locs hw => ?_)
            refine W.eq (g2 := F0 m 63 ls [.int (mb z21)]) rfl ?_
            refine lv_if_ne (tgt := 68) hx hb dX9_tissue_63 (by decide) (fun c23 => ?_) (fun c23 => ?_)
            · replace hf := mF1 c23 hf
              refine lv_aload_n hx hb dX9_tissue_68 rfl (lv_at hl 1 rfl) ?_
              refine lv_iload hx hb dX9_tissue_69 (lv_at hl 0 rfl) ?_
              refine lv_if_eq (tgt := 78) hx hb dX9_tissue_71 (by decide) (fun _ => ?_) (fun c => absurd (by decide) c)
              refine lv_iload_n hx hb dX9_tissue_78 rfl (lv_at hl 2 rfl) ?_
              refine lv_iload_n hx hb dX9_tissue_79 rfl (lv_at hl 3 rfl) ?_
              refine lv_iload hx hb dX9_tissue_80 (lv_at hl 0 rfl) ?_
              refine lv_if_eq (tgt := 90) hx hb dX9_tissue_82 (by decide) (fun _ => ?_) (fun c => absurd (by decide) c)
              refine lv_bipush (v := (13 : Int32)) hx hb dX9_tissue_90 (by decide) ?_
              refine lv_iload_n hx hb dX9_tissue_92 rfl (lv_at hl 4 rfl) ?_
              refine lv_iadd hx hb dX9_tissue_93 ?_
              refine lv_iload hx hb dX9_tissue_94 (lv_at hl 5 rfl) ?_
              refine lv_if_ne (tgt := 103) hx hb dX9_tissue_96 (by decide) (fun c26 => ?_) (fun c26 => ?_)
              · replace hf := mF1 c26 hf
                refine lv_bipush (v := (10 : Int32)) hx hb dX9_tissue_103 (by decide) ?_
                refine lv_iload hx hb dX9_tissue_105 (lv_at hl 5 rfl) ?_
                refine lv_iload hx hb dX9_tissue_107 (lv_at hl 6 rfl) ?_
                refine mmmin B hl.1 mhX9_76 (Nat.le_of_ble_eq_true rfl) (Nat.le_of_ble_eq_true rfl) (Nat.zero_le _) (Nat.zero_le _) dX9_tissue_109 ?_
                refine lv_imul hx hb dX9_tissue_112 ?_
                refine lv_iload hx hb dX9_tissue_113 (lv_at hl 5 rfl) ?_
                refine lv_iload hx hb dX9_tissue_115 (lv_at hl 6 rfl) ?_
                refine mmmax B hl.1 mhX9_82 (Nat.le_of_ble_eq_true rfl) (Nat.le_of_ble_eq_true rfl) (Nat.zero_le _) (Nat.zero_le _) dX9_tissue_117 ?_
                refine lv_iadd hx hb dX9_tissue_120 ?_
                obtain ⟨z27, e28, hf⟩ := mBind hf
                refine mcallV (rest := []) (ci := 9) B hw [.int a1, .int a2, .int ((13 : Int32) + a3), .int (((10 : Int32) * (imin a4 a5)) + (imax a4 a5))] clX9_72 rfl h3 (r_X9_mends l g K n hJ hO a0 a1 a2 ((13 : Int32) + a3) (((10 : Int32) * (imin a4 a5)) + (imax a4 a5)) I0 J0 R0 z27 e28) ⟨rfl, rfl, Nat.le_of_ble_eq_true rfl, Nat.le_of_ble_eq_true rfl⟩ rfl hl.1 (Nat.le_of_ble_eq_true rfl) ⟨Nat.zero_le _, Nat.zero_le _⟩ dX9_tissue_121 (fun H locs hw => ?_)
                refine W.eq (g2 := F0 m 124 ls [.int (mb z27.1)]) rfl ?_
                rw [hQm, ← Option.some.inj hf]
                exact mrz (v := z27.1) hx hb hr hlk hw dX9_tissue_124
              · replace hf := mT1 c26 hf
                refine lv_iconst (v := (0 : Int32)) hx hb dX9_tissue_99 (by decide) ?_
                refine lv_goto (tgt := 121) hx hb dX9_tissue_100 (by decide) ?_
                obtain ⟨z29, e30, hf⟩ := mBind hf
                refine mcallV (rest := []) (ci := 9) B hw [.int a1, .int a2, .int ((13 : Int32) + a3), .int (0 : Int32)] clX9_72 rfl h3 (r_X9_mends l g K n hJ hO a0 a1 a2 ((13 : Int32) + a3) (0 : Int32) I0 J0 R0 z29 e30) ⟨rfl, rfl, Nat.le_of_ble_eq_true rfl, Nat.le_of_ble_eq_true rfl⟩ rfl hl.1 (Nat.le_of_ble_eq_true rfl) ⟨Nat.zero_le _, Nat.zero_le _⟩ dX9_tissue_121 (fun H locs hw => ?_)
                refine W.eq (g2 := F0 m 124 ls [.int (mb z29.1)]) rfl ?_
                rw [hQm, ← Option.some.inj hf]
                exact mrz (v := z29.1) hx hb hr hlk hw dX9_tissue_124
            · replace hf := mT1 c23 hf
              refine lv_iconst (v := (0 : Int32)) hx hb dX9_tissue_66 (by decide) ?_
              rw [hQm, ← Option.some.inj hf]
              exact mrz (v := false) hx hb hr hlk hw dX9_tissue_67
  · replace hf := mT1 c1 hf
    refine lv_iconst (v := (1 : Int32)) hx hb dX9_tissue_5 (by decide) ?_
    refine lv_goto (tgt := 10) hx hb dX9_tissue_6 (by decide) ?_
    refine lv_istore (lv' := [(6, .int (1 : Int32)), (0, .ref (g.2.1 a0)), (1, .int a1), (2, .int a2), (3, .int a3), (4, .int a4), (5, .int a5)]) hx hb dX9_tissue_10 hl (by decide) rfl (fun ls hl => ?_)
    refine lv_aload_n hx hb dX9_tissue_12 rfl (lv_at hl 1 rfl) ?_
    refine lv_iload hx hb dX9_tissue_13 (lv_at hl 0 rfl) ?_
    refine lv_if_eq (tgt := 22) hx hb dX9_tissue_15 (by decide) (fun c => absurd c (by decide)) (fun _ => ?_)
    refine lv_iconst (v := (0 : Int32)) hx hb dX9_tissue_18 (by decide) ?_
    refine lv_goto (tgt := 23) hx hb dX9_tissue_19 (by decide) ?_
    refine lv_iload_n hx hb dX9_tissue_23 rfl (lv_at hl 3 rfl) ?_
    obtain ⟨h32, hf⟩ := mChk hf
    obtain ⟨z33, e34, hf⟩ := mBind hf
    refine mcallV (rest := []) (ci := 9) B hw [.int (0 : Int32), .int a2] clX9_68 rfl h32 (r_X9_isFile l g K n hJ hO a0 (0 : Int32) a2 I0 J0 R0 z33 e34) ⟨rfl, rfl, Nat.le_of_ble_eq_true rfl, Nat.le_of_ble_eq_true rfl⟩ rfl hl.1 (Nat.le_of_ble_eq_true rfl) ⟨Nat.zero_le _, Nat.zero_le _⟩ dX9_tissue_24 (fun H locs hw => ?_)
    refine W.eq (g2 := F0 m 27 ls [.int (mb z33)]) rfl ?_
    refine lv_if_eq (tgt := 66) hx hb dX9_tissue_27 (by decide) (fun c35 => ?_) (fun c35 => ?_)
    · replace hf := mT1 c35 hf
      refine lv_iconst (v := (0 : Int32)) hx hb dX9_tissue_66 (by decide) ?_
      rw [hQm, ← Option.some.inj hf]
      exact mrz (v := false) hx hb hr hlk hw dX9_tissue_67
    · replace hf := mF1 c35 hf
      refine lv_iload_n hx hb dX9_tissue_30 rfl (lv_at hl 4 rfl) ?_
      refine lv_iconst (v := (0 : Int32)) hx hb dX9_tissue_31 (by decide) ?_
      refine lv_iconst (v := (2 : Int32)) hx hb dX9_tissue_32 (by decide) ?_
      obtain ⟨z36, e37, hf⟩ := mBind hf
      refine mcallS (rest := []) B hw [.int a3, .int (0 : Int32), .int (2 : Int32)] clX9_64 (r_X9_isIn l g K n hJ hO a3 (0 : Int32) (2 : Int32) I0 J0 R0 z36 e37) ⟨rfl, rfl, Nat.le_of_ble_eq_true rfl, Nat.le_of_ble_eq_true rfl⟩ rfl hl.1 (Nat.le_of_ble_eq_true rfl) ⟨Nat.zero_le _, Nat.zero_le _⟩ dX9_tissue_33 (fun H locs hw => ?_)
      refine W.eq (g2 := F0 m 36 ls [.int (mb z36)]) rfl ?_
      refine lv_if_eq (tgt := 66) hx hb dX9_tissue_36 (by decide) (fun c38 => ?_) (fun c38 => ?_)
      · replace hf := mT1 c38 hf
        refine lv_iconst (v := (0 : Int32)) hx hb dX9_tissue_66 (by decide) ?_
        rw [hQm, ← Option.some.inj hf]
        exact mrz (v := false) hx hb hr hlk hw dX9_tissue_67
      · replace hf := mF1 c38 hf
        refine lv_iload hx hb dX9_tissue_39 (lv_at hl 5 rfl) ?_
        refine lv_if_eq (tgt := 68) hx hb dX9_tissue_41 (by decide) (fun c39 => ?_) (fun c39 => ?_)
        · replace hf := mT1 c39 hf
          refine lv_aload_n hx hb dX9_tissue_68 rfl (lv_at hl 1 rfl) ?_
          refine lv_iload hx hb dX9_tissue_69 (lv_at hl 0 rfl) ?_
          refine lv_if_eq (tgt := 78) hx hb dX9_tissue_71 (by decide) (fun c => absurd c (by decide)) (fun _ => ?_)
          refine lv_iconst (v := (0 : Int32)) hx hb dX9_tissue_74 (by decide) ?_
          refine lv_goto (tgt := 79) hx hb dX9_tissue_75 (by decide) ?_
          refine lv_iload_n hx hb dX9_tissue_79 rfl (lv_at hl 3 rfl) ?_
          refine lv_iload hx hb dX9_tissue_80 (lv_at hl 0 rfl) ?_
          refine lv_if_eq (tgt := 90) hx hb dX9_tissue_82 (by decide) (fun c => absurd c (by decide)) (fun _ => ?_)
          refine lv_bipush (v := (16 : Int32)) hx hb dX9_tissue_85 (by decide) ?_
          refine lv_goto (tgt := 92) hx hb dX9_tissue_87 (by decide) ?_
          refine lv_iload_n hx hb dX9_tissue_92 rfl (lv_at hl 4 rfl) ?_
          refine lv_iadd hx hb dX9_tissue_93 ?_
          refine lv_iload hx hb dX9_tissue_94 (lv_at hl 5 rfl) ?_
          refine lv_if_ne (tgt := 103) hx hb dX9_tissue_96 (by decide) (fun c42 => ?_) (fun c42 => ?_)
          · replace hf := mF1 c42 hf
            refine lv_bipush (v := (10 : Int32)) hx hb dX9_tissue_103 (by decide) ?_
            refine lv_iload hx hb dX9_tissue_105 (lv_at hl 5 rfl) ?_
            refine lv_iload hx hb dX9_tissue_107 (lv_at hl 6 rfl) ?_
            refine mmmin B hl.1 mhX9_76 (Nat.le_of_ble_eq_true rfl) (Nat.le_of_ble_eq_true rfl) (Nat.zero_le _) (Nat.zero_le _) dX9_tissue_109 ?_
            refine lv_imul hx hb dX9_tissue_112 ?_
            refine lv_iload hx hb dX9_tissue_113 (lv_at hl 5 rfl) ?_
            refine lv_iload hx hb dX9_tissue_115 (lv_at hl 6 rfl) ?_
            refine mmmax B hl.1 mhX9_82 (Nat.le_of_ble_eq_true rfl) (Nat.le_of_ble_eq_true rfl) (Nat.zero_le _) (Nat.zero_le _) dX9_tissue_117 ?_
            refine lv_iadd hx hb dX9_tissue_120 ?_
            obtain ⟨z43, e44, hf⟩ := mBind hf
            refine mcallV (rest := []) (ci := 9) B hw [.int (0 : Int32), .int a2, .int ((16 : Int32) + a3), .int (((10 : Int32) * (imin a4 a5)) + (imax a4 a5))] clX9_72 rfl h32 (r_X9_mends l g K n hJ hO a0 (0 : Int32) a2 ((16 : Int32) + a3) (((10 : Int32) * (imin a4 a5)) + (imax a4 a5)) I0 J0 R0 z43 e44) ⟨rfl, rfl, Nat.le_of_ble_eq_true rfl, Nat.le_of_ble_eq_true rfl⟩ rfl hl.1 (Nat.le_of_ble_eq_true rfl) ⟨Nat.zero_le _, Nat.zero_le _⟩ dX9_tissue_121 (fun H locs hw => ?_)
            refine W.eq (g2 := F0 m 124 ls [.int (mb z43.1)]) rfl ?_
            rw [hQm, ← Option.some.inj hf]
            exact mrz (v := z43.1) hx hb hr hlk hw dX9_tissue_124
          · replace hf := mT1 c42 hf
            refine lv_iconst (v := (0 : Int32)) hx hb dX9_tissue_99 (by decide) ?_
            refine lv_goto (tgt := 121) hx hb dX9_tissue_100 (by decide) ?_
            obtain ⟨z45, e46, hf⟩ := mBind hf
            refine mcallV (rest := []) (ci := 9) B hw [.int (0 : Int32), .int a2, .int ((16 : Int32) + a3), .int (0 : Int32)] clX9_72 rfl h32 (r_X9_mends l g K n hJ hO a0 (0 : Int32) a2 ((16 : Int32) + a3) (0 : Int32) I0 J0 R0 z45 e46) ⟨rfl, rfl, Nat.le_of_ble_eq_true rfl, Nat.le_of_ble_eq_true rfl⟩ rfl hl.1 (Nat.le_of_ble_eq_true rfl) ⟨Nat.zero_le _, Nat.zero_le _⟩ dX9_tissue_121 (fun H locs hw => ?_)
            refine W.eq (g2 := F0 m 124 ls [.int (mb z45.1)]) rfl ?_
            rw [hQm, ← Option.some.inj hf]
            exact mrz (v := z45.1) hx hb hr hlk hw dX9_tissue_124
        · replace hf := mF1 c39 hf
          refine lv_iload hx hb dX9_tissue_44 (lv_at hl 5 rfl) ?_
          refine lv_iconst (v := (1 : Int32)) hx hb dX9_tissue_46 (by decide) ?_
          refine lv_bipush (v := (9 : Int32)) hx hb dX9_tissue_47 (by decide) ?_
          obtain ⟨z47, e48, hf⟩ := mBind hf
          refine mcallS (rest := []) B hw [.int a4, .int (1 : Int32), .int (9 : Int32)] clX9_64 (r_X9_isIn l g K n hJ hO a4 (1 : Int32) (9 : Int32) I0 J0 R0 z47 e48) ⟨rfl, rfl, Nat.le_of_ble_eq_true rfl, Nat.le_of_ble_eq_true rfl⟩ rfl hl.1 (Nat.le_of_ble_eq_true rfl) ⟨Nat.zero_le _, Nat.zero_le _⟩ dX9_tissue_49 (fun H locs hw => ?_)
          refine W.eq (g2 := F0 m 52 ls [.int (mb z47)]) rfl ?_
          refine lv_if_eq (tgt := 66) hx hb dX9_tissue_52 (by decide) (fun c49 => ?_) (fun c49 => ?_)
          · replace hf := mT1 c49 hf
            refine lv_iconst (v := (0 : Int32)) hx hb dX9_tissue_66 (by decide) ?_
            rw [hQm, ← Option.some.inj hf]
            exact mrz (v := false) hx hb hr hlk hw dX9_tissue_67
          · replace hf := mF1 c49 hf
            refine lv_iload hx hb dX9_tissue_55 (lv_at hl 6 rfl) ?_
            refine lv_iconst (v := (1 : Int32)) hx hb dX9_tissue_57 (by decide) ?_
            refine lv_bipush (v := (9 : Int32)) hx hb dX9_tissue_58 (by decide) ?_
            obtain ⟨z50, e51, hf⟩ := mBind hf
            refine mcallS (rest := []) B hw [.int a5, .int (1 : Int32), .int (9 : Int32)] clX9_64 (r_X9_isIn l g K n hJ hO a5 (1 : Int32) (9 : Int32) I0 J0 R0 z50 e51) ⟨rfl, rfl, Nat.le_of_ble_eq_true rfl, Nat.le_of_ble_eq_true rfl⟩ rfl hl.1 (Nat.le_of_ble_eq_true rfl) ⟨Nat.zero_le _, Nat.zero_le _⟩ dX9_tissue_60 (fun H locs hw => ?_)
            refine W.eq (g2 := F0 m 63 ls [.int (mb z50)]) rfl ?_
            refine lv_if_ne (tgt := 68) hx hb dX9_tissue_63 (by decide) (fun c52 => ?_) (fun c52 => ?_)
            · replace hf := mF1 c52 hf
              refine lv_aload_n hx hb dX9_tissue_68 rfl (lv_at hl 1 rfl) ?_
              refine lv_iload hx hb dX9_tissue_69 (lv_at hl 0 rfl) ?_
              refine lv_if_eq (tgt := 78) hx hb dX9_tissue_71 (by decide) (fun c => absurd c (by decide)) (fun _ => ?_)
              refine lv_iconst (v := (0 : Int32)) hx hb dX9_tissue_74 (by decide) ?_
              refine lv_goto (tgt := 79) hx hb dX9_tissue_75 (by decide) ?_
              refine lv_iload_n hx hb dX9_tissue_79 rfl (lv_at hl 3 rfl) ?_
              refine lv_iload hx hb dX9_tissue_80 (lv_at hl 0 rfl) ?_
              refine lv_if_eq (tgt := 90) hx hb dX9_tissue_82 (by decide) (fun c => absurd c (by decide)) (fun _ => ?_)
              refine lv_bipush (v := (16 : Int32)) hx hb dX9_tissue_85 (by decide) ?_
              refine lv_goto (tgt := 92) hx hb dX9_tissue_87 (by decide) ?_
              refine lv_iload_n hx hb dX9_tissue_92 rfl (lv_at hl 4 rfl) ?_
              refine lv_iadd hx hb dX9_tissue_93 ?_
              refine lv_iload hx hb dX9_tissue_94 (lv_at hl 5 rfl) ?_
              refine lv_if_ne (tgt := 103) hx hb dX9_tissue_96 (by decide) (fun c55 => ?_) (fun c55 => ?_)
              · replace hf := mF1 c55 hf
                refine lv_bipush (v := (10 : Int32)) hx hb dX9_tissue_103 (by decide) ?_
                refine lv_iload hx hb dX9_tissue_105 (lv_at hl 5 rfl) ?_
                refine lv_iload hx hb dX9_tissue_107 (lv_at hl 6 rfl) ?_
                refine mmmin B hl.1 mhX9_76 (Nat.le_of_ble_eq_true rfl) (Nat.le_of_ble_eq_true rfl) (Nat.zero_le _) (Nat.zero_le _) dX9_tissue_109 ?_
                refine lv_imul hx hb dX9_tissue_112 ?_
                refine lv_iload hx hb dX9_tissue_113 (lv_at hl 5 rfl) ?_
                refine lv_iload hx hb dX9_tissue_115 (lv_at hl 6 rfl) ?_
                refine mmmax B hl.1 mhX9_82 (Nat.le_of_ble_eq_true rfl) (Nat.le_of_ble_eq_true rfl) (Nat.zero_le _) (Nat.zero_le _) dX9_tissue_117 ?_
                refine lv_iadd hx hb dX9_tissue_120 ?_
                obtain ⟨z56, e57, hf⟩ := mBind hf
                refine mcallV (rest := []) (ci := 9) B hw [.int (0 : Int32), .int a2, .int ((16 : Int32) + a3), .int (((10 : Int32) * (imin a4 a5)) + (imax a4 a5))] clX9_72 rfl h32 (r_X9_mends l g K n hJ hO a0 (0 : Int32) a2 ((16 : Int32) + a3) (((10 : Int32) * (imin a4 a5)) + (imax a4 a5)) I0 J0 R0 z56 e57) ⟨rfl, rfl, Nat.le_of_ble_eq_true rfl, Nat.le_of_ble_eq_true rfl⟩ rfl hl.1 (Nat.le_of_ble_eq_true rfl) ⟨Nat.zero_le _, Nat.zero_le _⟩ dX9_tissue_121 (fun H locs hw => ?_)
                refine W.eq (g2 := F0 m 124 ls [.int (mb z56.1)]) rfl ?_
                rw [hQm, ← Option.some.inj hf]
                exact mrz (v := z56.1) hx hb hr hlk hw dX9_tissue_124
              · replace hf := mT1 c55 hf
                refine lv_iconst (v := (0 : Int32)) hx hb dX9_tissue_99 (by decide) ?_
                refine lv_goto (tgt := 121) hx hb dX9_tissue_100 (by decide) ?_
                obtain ⟨z58, e59, hf⟩ := mBind hf
                refine mcallV (rest := []) (ci := 9) B hw [.int (0 : Int32), .int a2, .int ((16 : Int32) + a3), .int (0 : Int32)] clX9_72 rfl h32 (r_X9_mends l g K n hJ hO a0 (0 : Int32) a2 ((16 : Int32) + a3) (0 : Int32) I0 J0 R0 z58 e59) ⟨rfl, rfl, Nat.le_of_ble_eq_true rfl, Nat.le_of_ble_eq_true rfl⟩ rfl hl.1 (Nat.le_of_ble_eq_true rfl) ⟨Nat.zero_le _, Nat.zero_le _⟩ dX9_tissue_121 (fun H locs hw => ?_)
                refine W.eq (g2 := F0 m 124 ls [.int (mb z58.1)]) rfl ?_
                rw [hQm, ← Option.some.inj hf]
                exact mrz (v := z58.1) hx hb hr hlk hw dX9_tissue_124
            · replace hf := mT1 c52 hf
              refine lv_iconst (v := (0 : Int32)) hx hb dX9_tissue_66 (by decide) ?_
              rw [hQm, ← Option.some.inj hf]
              exact mrz (v := false) hx hb hr hlk hw dX9_tissue_67
def f_X9_piecesOf_L4 (K : mK) (v0 : Nat) (v1 : Int32) (I0 : mI) (J0 : mJ) (R0 : mR) : Nat → Int32 → Int32 → Option Int32
  | 0, _, _ => none
  | N + 1, v2, v3 =>
  if K v0 = (0, 9) then
  (R0 v0 0).bind fun x2 =>
  if mIx K x2 1 (1 : Int32) then
  if (I0 x2 ((1 : Int32)).toNatClampNeg) ≤ v3 then
  some v2
  else
  (R0 v0 5).bind fun x6 =>
  if mIx K x6 1 v3 then
  if (I0 x6 (v3).toNatClampNeg) = v1 then
  (R0 v0 4).bind fun x10 =>
  if mIx K x10 1 v3 then
  f_X9_piecesOf_L4 K v0 v1 I0 J0 R0 N (v2 ||| (I0 x10 (v3).toNatClampNeg)) (v3 + (1 : Int32))
  else none
  else
  f_X9_piecesOf_L4 K v0 v1 I0 J0 R0 N v2 (v3 + (1 : Int32))
  else none
  else none
  else none
def f_X9_piecesOf (K : mK) (a0 : Nat) (a1 : Int32) (I0 : mI) (J0 : mJ) (R0 : mR) : Option Int32 :=
  (f_X9_piecesOf_L4 K a0 a1 I0 J0 R0 8192 (0 : Int32) (0 : Int32)).bind fun z13 =>
  some z13
set_option maxHeartbeats 4000000 in
set_option maxRecDepth 100000 in
theorem r_X9_piecesOf (l : Launch) (g : mG) (K : mK) (n : Nat) (hJ : mInj g n) (hO : mOk K n) (a0 : Nat) (a1 : Int32) (I0 : mI) (J0 : mJ) (R0 : mR) (out : Int32) (hf : f_X9_piecesOf K a0 a1 I0 J0 R0 = some out) : Met l yX9_piecesOf (mWs yX9_piecesOf cX9_piecesOf 4 (some .int)) ({ frames := 0, cells := 0, slots := 0, locals := 0 }) (va_Pc [.ref (g.2.1 a0), .int a1] (mB g K n I0 J0 R0)) (mQ g K n (some (.int out)) I0 J0 R0) 0 0 (mA g n) := by
  unfold f_X9_piecesOf at hf
  refine mStart RX9 hJ hO (by decide) rfl (Nat.le_of_ble_eq_true rfl) ?_
  intro p e s m below meth c ls Qm hQm B hr hlk hw hl
  have hx := B.1.1
  have hb := B.1.2.1
  have hl : lv_has ls 4 [(0, .ref (g.2.1 a0)), (1, .int a1)] := hl
  have L4 : ∀ (N : Nat) (v0 : Nat) (v1 : Int32) (v2 : Int32) (v3 : Int32) (z : Int32) (H : Heap) (locs : List Loc) (ls : Array Slot), f_X9_piecesOf_L4 K v0 v1 I0 J0 R0 N v2 v3 = some z → mHp g K n s I0 J0 R0 H locs → lv_has ls 4 [(0, .ref (g.2.1 v0)), (1, .int v1), (2, .int v2), (3, .int v3)] → (∀ (H : Heap) (locs : List Loc) (ls : Array Slot), mHp g K n s I0 J0 R0 H locs → lv_has ls 4 [(2, .int z)] → W p l e ({ frames := 0, cells := 0, slots := 0, locals := 0 } : Room) s m ([.ref (g.2.1 a0), .int a1] : List Value).toArray below meth c H locs 0 0 Qm (F0 m 39 ls [])) → W p l e ({ frames := 0, cells := 0, slots := 0, locals := 0 } : Room) s m ([.ref (g.2.1 a0), .int a1] : List Value).toArray below meth c H locs 0 0 Qm (F0 m 4 ls []) := by
    intro N
    induction N with
    | zero =>
      intro v0 v1 v2 v3  z H locs ls hf hw hl kx
      rw [f_X9_piecesOf_L4] at hf
      cases hf
    | succ N ih =>
      intro v0 v1 v2 v3  z H locs ls hf hw hl kx
      rw [f_X9_piecesOf_L4] at hf
      refine lv_iload_n hx hb dX9_piecesOf_4 rfl (lv_at hl 3 rfl) ?_
      refine lv_aload_n hx hb dX9_piecesOf_5 rfl (lv_at hl 0 rfl) ?_
      obtain ⟨h1, hf⟩ := mChk hf
      obtain ⟨x2, e3, hf⟩ := mBind hf
      refine mgr B hw flX9_7 rfl h1 e3 dX9_piecesOf_6 ?_
      refine lv_iconst (v := (1 : Int32)) hx hb dX9_piecesOf_9 (by decide) ?_
      obtain ⟨h4, hf⟩ := mChk hf
      refine mld1 B hw h4 dX9_piecesOf_10 ?_
      refine lv_icmp_ge (tgt := 39) hx hb dX9_piecesOf_11 (by decide) (fun c5 => ?_) (fun c5 => ?_)
      · replace hf := mT1 c5 hf
        obtain rfl := Option.some.inj hf
        exact kx _ _ _ hw (lv_sub hl [2] rfl)
      · replace hf := mF1 c5 hf
        refine lv_aload_n hx hb dX9_piecesOf_14 rfl (lv_at hl 0 rfl) ?_
        obtain ⟨x6, e7, hf⟩ := mBind hf
        refine mgr B hw flX9_25 rfl h1 e7 dX9_piecesOf_15 ?_
        refine lv_iload_n hx hb dX9_piecesOf_18 rfl (lv_at hl 3 rfl) ?_
        obtain ⟨h8, hf⟩ := mChk hf
        refine mld1 B hw h8 dX9_piecesOf_19 ?_
        refine lv_iload_n hx hb dX9_piecesOf_20 rfl (lv_at hl 1 rfl) ?_
        refine lv_icmp_ne (tgt := 33) hx hb dX9_piecesOf_21 (by decide) (fun c9 => ?_) (fun c9 => ?_)
        · replace hf := mF1 c9 hf
          refine lv_iinc (v := (v3 + (1 : Int32))) (lv' := [(3, .int (v3 + (1 : Int32))), (0, .ref (g.2.1 v0)), (1, .int v1), (2, .int v2)]) hx hb dX9_piecesOf_33 hl (k := 3) rfl rfl (by decide) rfl (fun ls hl => ?_)
          refine lv_goto (tgt := 4) hx hb dX9_piecesOf_36 (by decide) ?_
          exact ih v0 v1 v2 (v3 + (1 : Int32)) z _ _ _ hf hw (lv_sub hl [1, 2, 3, 0] rfl) kx
        · replace hf := mT1 c9 hf
          refine lv_iload_n hx hb dX9_piecesOf_24 rfl (lv_at hl 2 rfl) ?_
          refine lv_aload_n hx hb dX9_piecesOf_25 rfl (lv_at hl 0 rfl) ?_
          obtain ⟨x10, e11, hf⟩ := mBind hf
          refine mgr B hw flX9_22 rfl h1 e11 dX9_piecesOf_26 ?_
          refine lv_iload_n hx hb dX9_piecesOf_29 rfl (lv_at hl 3 rfl) ?_
          obtain ⟨h12, hf⟩ := mChk hf
          refine mld1 B hw h12 dX9_piecesOf_30 ?_
          refine lv_ior hx hb dX9_piecesOf_31 ?_
          refine lv_istore_n (lv' := [(2, .int (v2 ||| (I0 x10 (v3).toNatClampNeg))), (0, .ref (g.2.1 v0)), (1, .int v1), (3, .int v3)]) hx hb dX9_piecesOf_32 rfl hl (by decide) rfl (fun ls hl => ?_)
          refine lv_iinc (v := (v3 + (1 : Int32))) (lv' := [(3, .int (v3 + (1 : Int32))), (2, .int (v2 ||| (I0 x10 (v3).toNatClampNeg))), (0, .ref (g.2.1 v0)), (1, .int v1)]) hx hb dX9_piecesOf_33 hl (k := 3) rfl rfl (by decide) rfl (fun ls hl => ?_)
          refine lv_goto (tgt := 4) hx hb dX9_piecesOf_36 (by decide) ?_
          exact ih v0 v1 (v2 ||| (I0 x10 (v3).toNatClampNeg)) (v3 + (1 : Int32)) z _ _ _ hf hw (lv_sub hl [2, 3, 1, 0] rfl) kx
  refine lv_iconst (v := (0 : Int32)) hx hb dX9_piecesOf_0 (by decide) ?_
  refine lv_istore_n (lv' := [(2, .int (0 : Int32)), (0, .ref (g.2.1 a0)), (1, .int a1)]) hx hb dX9_piecesOf_1 rfl hl (by decide) rfl (fun ls hl => ?_)
  refine lv_iconst (v := (0 : Int32)) hx hb dX9_piecesOf_2 (by decide) ?_
  refine lv_istore_n (lv' := [(3, .int (0 : Int32)), (2, .int (0 : Int32)), (0, .ref (g.2.1 a0)), (1, .int a1)]) hx hb dX9_piecesOf_3 rfl hl (by decide) rfl (fun ls hl => ?_)
  obtain ⟨z13, e14, hf⟩ := mBind hf
  refine L4 8192 a0 a1 (0 : Int32) (0 : Int32) z13 _ _ _ e14 hw (lv_sub hl [2, 3, 1, 0] rfl) (fun H locs ls hw hl => ?_)
  refine lv_iload_n hx hb dX9_piecesOf_39 rfl (lv_at hl 0 rfl) ?_
  rw [hQm, ← Option.some.inj hf]
  exact mri hx hb hr hlk hw dX9_piecesOf_40
def f_X9_pieces (K : mK) (a0 : Nat) (a1 : Int32) (a2 : Int32) (I0 : mI) (J0 : mJ) (R0 : mR) : Option (Bool × mI) :=
  if K a0 = (0, 9) then
  (f_X9_isFile K a0 (1 : Int32) a1 I0 J0 R0).bind fun z2 =>
  if (mb z2) = 0 then
  some (false, I0)
  else
  (f_X9_isIn K a2 (0 : Int32) (255 : Int32) I0 J0 R0).bind fun z5 =>
  if (mb z5) = 0 then
  some (false, I0)
  else
  (R0 a0 4).bind fun x8 =>
  if mIx K x8 1 a1 then
  (some (mup I0 x8 (a1).toNatClampNeg (0 : Int32))).bind fun I11 =>
  (R0 a0 5).bind fun x13 =>
  if mIx K x13 1 a1 then
  (f_X9_piecesOf K a0 (I11 x13 (a1).toNatClampNeg) I11 J0 R0).bind fun z16 =>
  if (z16 &&& a2) = 0 then
  (some (mup I11 x8 (a1).toNatClampNeg a2)).bind fun I20 =>
  some (true, I20)
  else
  (some (mup I11 x8 (a1).toNatClampNeg (I0 x8 (a1).toNatClampNeg))).bind fun I24 =>
  some (false, I24)
  else none
  else none
  else none
set_option maxHeartbeats 4000000 in
set_option maxRecDepth 100000 in
theorem r_X9_pieces (l : Launch) (g : mG) (K : mK) (n : Nat) (hJ : mInj g n) (hO : mOk K n) (a0 : Nat) (a1 : Int32) (a2 : Int32) (I0 : mI) (J0 : mJ) (R0 : mR) (out : (Bool × mI)) (hf : f_X9_pieces K a0 a1 a2 I0 J0 R0 = some out) : Met l yX9_pieces (mWs yX9_pieces cX9_pieces 5 (some .boolean)) ({ frames := 2, cells := 0, slots := 0, locals := 44 }) (va_Pc [.ref (g.2.1 a0), .int a1, .int a2] (mB g K n I0 J0 R0)) (mQ g K n (some (.int (mb out.1))) out.2 J0 R0) 0 0 (mA g n) := by
  unfold f_X9_pieces at hf
  refine mStart RX9 hJ hO (by decide) rfl (Nat.le_of_ble_eq_true rfl) ?_
  intro p e s m below meth c ls Qm hQm B hr hlk hw hl
  have hx := B.1.1
  have hb := B.1.2.1
  have hl : lv_has ls 5 [(0, .ref (g.2.1 a0)), (1, .int a1), (2, .int a2)] := hl
  refine lv_aload_n hx hb dX9_pieces_0 rfl (lv_at hl 0 rfl) ?_
  refine lv_iconst (v := (1 : Int32)) hx hb dX9_pieces_1 (by decide) ?_
  refine lv_iload_n hx hb dX9_pieces_2 rfl (lv_at hl 1 rfl) ?_
  obtain ⟨h1, hf⟩ := mChk hf
  obtain ⟨z2, e3, hf⟩ := mBind hf
  refine mcallV (rest := []) (ci := 9) B hw [.int (1 : Int32), .int a1] clX9_68 rfl h1 (r_X9_isFile l g K n hJ hO a0 (1 : Int32) a1 I0 J0 R0 z2 e3) ⟨rfl, rfl, Nat.le_of_ble_eq_true rfl, Nat.le_of_ble_eq_true rfl⟩ rfl hl.1 (Nat.le_of_ble_eq_true rfl) ⟨Nat.zero_le _, Nat.zero_le _⟩ dX9_pieces_3 (fun H locs hw => ?_)
  refine W.eq (g2 := F0 m 6 ls [.int (mb z2)]) rfl ?_
  refine lv_if_eq (tgt := 20) hx hb dX9_pieces_6 (by decide) (fun c4 => ?_) (fun c4 => ?_)
  · replace hf := mT1 c4 hf
    refine lv_iconst (v := (0 : Int32)) hx hb dX9_pieces_20 (by decide) ?_
    rw [hQm, ← Option.some.inj hf]
    exact mrz (v := false) hx hb hr hlk hw dX9_pieces_21
  · replace hf := mF1 c4 hf
    refine lv_iload_n hx hb dX9_pieces_9 rfl (lv_at hl 2 rfl) ?_
    refine lv_iconst (v := (0 : Int32)) hx hb dX9_pieces_10 (by decide) ?_
    refine lv_sipush (v := (255 : Int32)) hx hb dX9_pieces_11 (by decide) ?_
    obtain ⟨z5, e6, hf⟩ := mBind hf
    refine mcallS (rest := []) B hw [.int a2, .int (0 : Int32), .int (255 : Int32)] clX9_64 (r_X9_isIn l g K n hJ hO a2 (0 : Int32) (255 : Int32) I0 J0 R0 z5 e6) ⟨rfl, rfl, Nat.le_of_ble_eq_true rfl, Nat.le_of_ble_eq_true rfl⟩ rfl hl.1 (Nat.le_of_ble_eq_true rfl) ⟨Nat.zero_le _, Nat.zero_le _⟩ dX9_pieces_14 (fun H locs hw => ?_)
    refine W.eq (g2 := F0 m 17 ls [.int (mb z5)]) rfl ?_
    refine lv_if_ne (tgt := 22) hx hb dX9_pieces_17 (by decide) (fun c7 => ?_) (fun c7 => ?_)
    · replace hf := mF1 c7 hf
      refine lv_aload_n hx hb dX9_pieces_22 rfl (lv_at hl 0 rfl) ?_
      obtain ⟨x8, e9, hf⟩ := mBind hf
      refine mgr B hw flX9_22 rfl h1 e9 dX9_pieces_23 ?_
      refine lv_iload_n hx hb dX9_pieces_26 rfl (lv_at hl 1 rfl) ?_
      obtain ⟨h10, hf⟩ := mChk hf
      refine mld1 B hw h10 dX9_pieces_27 ?_
      refine lv_istore_n (lv' := [(3, .int (I0 x8 (a1).toNatClampNeg)), (0, .ref (g.2.1 a0)), (1, .int a1), (2, .int a2)]) hx hb dX9_pieces_28 rfl hl (by decide) rfl (fun ls hl => ?_)
      refine lv_aload_n hx hb dX9_pieces_29 rfl (lv_at hl 1 rfl) ?_
      refine mgr B hw flX9_22 rfl h1 e9 dX9_pieces_30 ?_
      refine lv_iload_n hx hb dX9_pieces_33 rfl (lv_at hl 2 rfl) ?_
      refine lv_iconst (v := (0 : Int32)) hx hb dX9_pieces_34 (by decide) ?_
      obtain ⟨I11, e12, hf⟩ := mLet hf
      refine mst1 B hw h10 dX9_pieces_35 (fun H locs hw => ?_)
      rw [← e12] at hw
      refine lv_aload_n hx hb dX9_pieces_36 rfl (lv_at hl 1 rfl) ?_
      refine lv_aload_n hx hb dX9_pieces_37 rfl (lv_at hl 1 rfl) ?_
      obtain ⟨x13, e14, hf⟩ := mBind hf
      refine mgr B hw flX9_25 rfl h1 e14 dX9_pieces_38 ?_
      refine lv_iload_n hx hb dX9_pieces_41 rfl (lv_at hl 2 rfl) ?_
      obtain ⟨h15, hf⟩ := mChk hf
      refine mld1 B hw h15 dX9_pieces_42 ?_
      obtain ⟨z16, e17, hf⟩ := mBind hf
      refine mcallV (rest := []) (ci := 9) B hw [.int (I11 x13 (a1).toNatClampNeg)] clX9_85 rfl h1 (r_X9_piecesOf l g K n hJ hO a0 (I11 x13 (a1).toNatClampNeg) I11 J0 R0 z16 e17) ⟨rfl, rfl, Nat.le_of_ble_eq_true rfl, Nat.le_of_ble_eq_true rfl⟩ rfl hl.1 (Nat.le_of_ble_eq_true rfl) ⟨Nat.zero_le _, Nat.zero_le _⟩ dX9_pieces_43 (fun H locs hw => ?_)
      refine W.eq (g2 := F0 m 46 ls [.int z16]) rfl ?_
      refine lv_iload_n hx hb dX9_pieces_46 rfl (lv_at hl 3 rfl) ?_
      refine lv_iand hx hb dX9_pieces_47 ?_
      refine lv_if_eq (tgt := 55) hx hb dX9_pieces_48 (by decide) (fun c18 => ?_) (fun c18 => ?_)
      · replace hf := mT1 c18 hf
        refine lv_iconst (v := (0 : Int32)) hx hb dX9_pieces_55 (by decide) ?_
        refine lv_istore (lv' := [(4, .int (0 : Int32)), (3, .int (I0 x8 (a1).toNatClampNeg)), (0, .ref (g.2.1 a0)), (1, .int a1), (2, .int a2)]) hx hb dX9_pieces_56 hl (by decide) rfl (fun ls hl => ?_)
        refine lv_aload_n hx hb dX9_pieces_58 rfl (lv_at hl 2 rfl) ?_
        refine mgr B hw flX9_22 rfl h1 e9 dX9_pieces_59 ?_
        refine lv_iload_n hx hb dX9_pieces_62 rfl (lv_at hl 3 rfl) ?_
        refine lv_iload hx hb dX9_pieces_63 (lv_at hl 0 rfl) ?_
        refine lv_if_eq (tgt := 72) hx hb dX9_pieces_65 (by decide) (fun _ => ?_) (fun c => absurd (by decide) c)
        refine lv_iload_n hx hb dX9_pieces_72 rfl (lv_at hl 4 rfl) ?_
        obtain ⟨I20, e21, hf⟩ := mLet hf
        refine mst1 B hw h10 dX9_pieces_73 (fun H locs hw => ?_)
        rw [← e21] at hw
        refine lv_iload hx hb dX9_pieces_74 (lv_at hl 0 rfl) ?_
        refine lv_if_ne (tgt := 83) hx hb dX9_pieces_76 (by decide) (fun c => absurd (by decide) c) (fun _ => ?_)
        refine lv_iconst (v := (1 : Int32)) hx hb dX9_pieces_79 (by decide) ?_
        refine lv_goto (tgt := 84) hx hb dX9_pieces_80 (by decide) ?_
        rw [hQm, ← Option.some.inj hf]
        exact mrz (v := true) hx hb hr hlk hw dX9_pieces_84
      · replace hf := mF1 c18 hf
        refine lv_iconst (v := (1 : Int32)) hx hb dX9_pieces_51 (by decide) ?_
        refine lv_goto (tgt := 56) hx hb dX9_pieces_52 (by decide) ?_
        refine lv_istore (lv' := [(4, .int (1 : Int32)), (3, .int (I0 x8 (a1).toNatClampNeg)), (0, .ref (g.2.1 a0)), (1, .int a1), (2, .int a2)]) hx hb dX9_pieces_56 hl (by decide) rfl (fun ls hl => ?_)
        refine lv_aload_n hx hb dX9_pieces_58 rfl (lv_at hl 2 rfl) ?_
        refine mgr B hw flX9_22 rfl h1 e9 dX9_pieces_59 ?_
        refine lv_iload_n hx hb dX9_pieces_62 rfl (lv_at hl 3 rfl) ?_
        refine lv_iload hx hb dX9_pieces_63 (lv_at hl 0 rfl) ?_
        refine lv_if_eq (tgt := 72) hx hb dX9_pieces_65 (by decide) (fun c => absurd c (by decide)) (fun _ => ?_)
        refine lv_iload_n hx hb dX9_pieces_68 rfl (lv_at hl 1 rfl) ?_
        refine lv_goto (tgt := 73) hx hb dX9_pieces_69 (by decide) ?_
        obtain ⟨I24, e25, hf⟩ := mLet hf
        refine mst1 B hw h10 dX9_pieces_73 (fun H locs hw => ?_)
        rw [← e25] at hw
        refine lv_iload hx hb dX9_pieces_74 (lv_at hl 0 rfl) ?_
        refine lv_if_ne (tgt := 83) hx hb dX9_pieces_76 (by decide) (fun _ => ?_) (fun c => absurd c (by decide))
        refine lv_iconst (v := (0 : Int32)) hx hb dX9_pieces_83 (by decide) ?_
        rw [hQm, ← Option.some.inj hf]
        exact mrz (v := false) hx hb hr hlk hw dX9_pieces_84
    · replace hf := mT1 c7 hf
      refine lv_iconst (v := (0 : Int32)) hx hb dX9_pieces_20 (by decide) ?_
      rw [hQm, ← Option.some.inj hf]
      exact mrz (v := false) hx hb hr hlk hw dX9_pieces_21
def f_X9_ofBody_L2 (K : mK) (v0 : Nat) (v1 : Int32) (v2 : Int32) (I0 : mI) (J0 : mJ) (R0 : mR) : Nat → Int32 → Option (Int32 ⊕ Unit)
  | 0, _ => none
  | N + 1, v3 =>
  if K v0 = (0, 9) then
  (R0 v0 0).bind fun x2 =>
  if mIx K x2 1 (1 : Int32) then
  if (I0 x2 ((1 : Int32)).toNatClampNeg) ≤ v3 then
  some (Sum.inr ())
  else
  (R0 v0 1).bind fun x6 =>
  if mIx K x6 1 (((19 : Int32) * ((12 : Int32) + v3)) + v2) then
  (some (I0 x6 ((((19 : Int32) * ((12 : Int32) + v3)) + v2)).toNatClampNeg)).bind fun y9 =>
  (R0 v0 5).bind fun x11 =>
  if mIx K x11 1 v3 then
  if (I0 x11 (v3).toNatClampNeg) = v1 then
  if y9 = 0 then
  f_X9_ofBody_L2 K v0 v1 v2 I0 J0 R0 N (v3 + (1 : Int32))
  else
  some (Sum.inl y9)
  else
  f_X9_ofBody_L2 K v0 v1 v2 I0 J0 R0 N (v3 + (1 : Int32))
  else none
  else none
  else none
  else none
def f_X9_ofBody (K : mK) (a0 : Nat) (a1 : Int32) (a2 : Int32) (I0 : mI) (J0 : mJ) (R0 : mR) : Option Int32 :=
  (f_X9_ofBody_L2 K a0 a1 a2 I0 J0 R0 8192 a1).bind fun z16 => Sum.elim (fun o => some o) (fun w18 =>
  some (0 : Int32)) z16
set_option maxHeartbeats 4000000 in
set_option maxRecDepth 100000 in
theorem r_X9_ofBody (l : Launch) (g : mG) (K : mK) (n : Nat) (hJ : mInj g n) (hO : mOk K n) (a0 : Nat) (a1 : Int32) (a2 : Int32) (I0 : mI) (J0 : mJ) (R0 : mR) (out : Int32) (hf : f_X9_ofBody K a0 a1 a2 I0 J0 R0 = some out) : Met l yX9_ofBody (mWs yX9_ofBody cX9_ofBody 5 (some .int)) ({ frames := 0, cells := 0, slots := 0, locals := 0 }) (va_Pc [.ref (g.2.1 a0), .int a1, .int a2] (mB g K n I0 J0 R0)) (mQ g K n (some (.int out)) I0 J0 R0) 0 0 (mA g n) := by
  unfold f_X9_ofBody at hf
  refine mStart RX9 hJ hO (by decide) rfl (Nat.le_of_ble_eq_true rfl) ?_
  intro p e s m below meth c ls Qm hQm B hr hlk hw hl
  have hx := B.1.1
  have hb := B.1.2.1
  have hl : lv_has ls 5 [(0, .ref (g.2.1 a0)), (1, .int a1), (2, .int a2)] := hl
  have L2 : ∀ (N : Nat) (v0 : Nat) (v1 : Int32) (v2 : Int32) (v3 : Int32) (z : (Int32 ⊕ Unit)) (H : Heap) (locs : List Loc) (ls : Array Slot), f_X9_ofBody_L2 K v0 v1 v2 I0 J0 R0 N v3 = some z → mHp g K n s I0 J0 R0 H locs → lv_has ls 5 [(0, .ref (g.2.1 v0)), (1, .int v1), (2, .int v2), (3, .int v3)] → (∀ w, z = Sum.inr w → (∀ (H : Heap) (locs : List Loc) (ls : Array Slot), mHp g K n s I0 J0 R0 H locs → lv_has ls 5 [] → W p l e ({ frames := 0, cells := 0, slots := 0, locals := 0 } : Room) s m ([.ref (g.2.1 a0), .int a1, .int a2] : List Value).toArray below meth c H locs 0 0 Qm (F0 m 52 ls []))) → (∀ o, z = Sum.inl o → o = out) → W p l e ({ frames := 0, cells := 0, slots := 0, locals := 0 } : Room) s m ([.ref (g.2.1 a0), .int a1, .int a2] : List Value).toArray below meth c H locs 0 0 Qm (F0 m 2 ls []) := by
    intro N
    induction N with
    | zero =>
      intro v0 v1 v2 v3  z H locs ls hf hw hl kx ko
      rw [f_X9_ofBody_L2] at hf
      cases hf
    | succ N ih =>
      intro v0 v1 v2 v3  z H locs ls hf hw hl kx ko
      rw [f_X9_ofBody_L2] at hf
      refine lv_iload_n hx hb dX9_ofBody_2 rfl (lv_at hl 3 rfl) ?_
      refine lv_aload_n hx hb dX9_ofBody_3 rfl (lv_at hl 0 rfl) ?_
      obtain ⟨h1, hf⟩ := mChk hf
      obtain ⟨x2, e3, hf⟩ := mBind hf
      refine mgr B hw flX9_7 rfl h1 e3 dX9_ofBody_4 ?_
      refine lv_iconst (v := (1 : Int32)) hx hb dX9_ofBody_7 (by decide) ?_
      obtain ⟨h4, hf⟩ := mChk hf
      refine mld1 B hw h4 dX9_ofBody_8 ?_
      refine lv_icmp_ge (tgt := 52) hx hb dX9_ofBody_9 (by decide) (fun c5 => ?_) (fun c5 => ?_)
      · replace hf := mT1 c5 hf
        obtain rfl := Option.some.inj hf
        exact kx _ rfl _ _ _ hw (lv_sub hl [] rfl)
      · replace hf := mF1 c5 hf
        refine lv_aload_n hx hb dX9_ofBody_12 rfl (lv_at hl 0 rfl) ?_
        obtain ⟨x6, e7, hf⟩ := mBind hf
        refine mgr B hw flX9_13 rfl h1 e7 dX9_ofBody_13 ?_
        refine lv_bipush (v := (19 : Int32)) hx hb dX9_ofBody_16 (by decide) ?_
        refine lv_bipush (v := (12 : Int32)) hx hb dX9_ofBody_18 (by decide) ?_
        refine lv_iload_n hx hb dX9_ofBody_20 rfl (lv_at hl 3 rfl) ?_
        refine lv_iadd hx hb dX9_ofBody_21 ?_
        refine lv_imul hx hb dX9_ofBody_22 ?_
        refine lv_iload_n hx hb dX9_ofBody_23 rfl (lv_at hl 2 rfl) ?_
        refine lv_iadd hx hb dX9_ofBody_24 ?_
        obtain ⟨h8, hf⟩ := mChk hf
        refine mld1 B hw h8 dX9_ofBody_25 ?_
        obtain ⟨y9, e10, hf⟩ := mLet hf
        rw [← e10]
        refine lv_istore (lv' := [(4, .int y9), (0, .ref (g.2.1 v0)), (1, .int v1), (2, .int v2), (3, .int v3)]) hx hb dX9_ofBody_26 hl (by decide) rfl (fun ls hl => ?_)
        refine lv_aload_n hx hb dX9_ofBody_28 rfl (lv_at hl 1 rfl) ?_
        obtain ⟨x11, e12, hf⟩ := mBind hf
        refine mgr B hw flX9_25 rfl h1 e12 dX9_ofBody_29 ?_
        refine lv_iload_n hx hb dX9_ofBody_32 rfl (lv_at hl 4 rfl) ?_
        obtain ⟨h13, hf⟩ := mChk hf
        refine mld1 B hw h13 dX9_ofBody_33 ?_
        refine lv_iload_n hx hb dX9_ofBody_34 rfl (lv_at hl 2 rfl) ?_
        refine lv_icmp_ne (tgt := 46) hx hb dX9_ofBody_35 (by decide) (fun c14 => ?_) (fun c14 => ?_)
        · replace hf := mF1 c14 hf
          refine lv_iinc (v := (v3 + (1 : Int32))) (lv' := [(3, .int (v3 + (1 : Int32))), (4, .int y9), (0, .ref (g.2.1 v0)), (1, .int v1), (2, .int v2)]) hx hb dX9_ofBody_46 hl (k := 4) rfl rfl (by decide) rfl (fun ls hl => ?_)
          refine lv_goto (tgt := 2) hx hb dX9_ofBody_49 (by decide) ?_
          exact ih v0 v1 v2 (v3 + (1 : Int32)) z _ _ _ hf hw (lv_sub hl [2, 3, 4, 0] rfl) kx ko
        · replace hf := mT1 c14 hf
          refine lv_iload hx hb dX9_ofBody_38 (lv_at hl 0 rfl) ?_
          refine lv_if_eq (tgt := 46) hx hb dX9_ofBody_40 (by decide) (fun c15 => ?_) (fun c15 => ?_)
          · replace hf := mT1 c15 hf
            refine lv_iinc (v := (v3 + (1 : Int32))) (lv' := [(3, .int (v3 + (1 : Int32))), (4, .int y9), (0, .ref (g.2.1 v0)), (1, .int v1), (2, .int v2)]) hx hb dX9_ofBody_46 hl (k := 4) rfl rfl (by decide) rfl (fun ls hl => ?_)
            refine lv_goto (tgt := 2) hx hb dX9_ofBody_49 (by decide) ?_
            exact ih v0 v1 v2 (v3 + (1 : Int32)) z _ _ _ hf hw (lv_sub hl [2, 3, 4, 0] rfl) kx ko
          · replace hf := mF1 c15 hf
            refine lv_iload hx hb dX9_ofBody_43 (lv_at hl 0 rfl) ?_
            rw [hQm, ← ko _ (Option.some.inj hf).symm]
            exact mri hx hb hr hlk hw dX9_ofBody_45
  refine lv_iload_n hx hb dX9_ofBody_0 rfl (lv_at hl 1 rfl) ?_
  refine lv_istore_n (lv' := [(3, .int a1), (0, .ref (g.2.1 a0)), (1, .int a1), (2, .int a2)]) hx hb dX9_ofBody_1 rfl hl (by decide) rfl (fun ls hl => ?_)
  obtain ⟨z16, e17, hf⟩ := mBind hf
  refine L2 8192 a0 a1 a2 a1 z16 _ _ _ e17 hw (lv_sub hl [1, 2, 3, 0] rfl) (fun w18 hw9 H locs ls hw hl => ?_) (fun o ho => ?_)
  · subst hw9
    replace hf := mInr hf
    refine lv_iconst (v := (0 : Int32)) hx hb dX9_ofBody_52 (by decide) ?_
    rw [hQm, ← Option.some.inj hf]
    exact mri hx hb hr hlk hw dX9_ofBody_53
  · subst ho
    exact Option.some.inj (mInl hf)
def f_X9_ageOf_L14 (K : mK) (v0 : Nat) (v1 : Int32) (v2 : Bool) (I0 : mI) (J0 : mJ) (R0 : mR) : Nat → Int32 → Int32 → Option Int32
  | 0, _, _ => none
  | N + 1, v3, v4 =>
  if K v0 = (0, 9) then
  (R0 v0 0).bind fun x2 =>
  if mIx K x2 1 (1 : Int32) then
  if (I0 x2 ((1 : Int32)).toNatClampNeg) ≤ v4 then
  some v3
  else
  (R0 v0 5).bind fun x6 =>
  if mIx K x6 1 v4 then
  if (I0 x6 (v4).toNatClampNeg) = v1 then
  if (mb v2) = 0 then
  (R0 v0 2).bind fun x11 =>
  if mIx K x11 1 ((12 : Int32) + v4) then
  f_X9_ageOf_L14 K v0 v1 v2 I0 J0 R0 N (imax v3 (I0 x11 (((12 : Int32) + v4)).toNatClampNeg)) (v4 + (1 : Int32))
  else none
  else
  (R0 v0 3).bind fun x14 =>
  if mIx K x14 1 ((12 : Int32) + v4) then
  f_X9_ageOf_L14 K v0 v1 v2 I0 J0 R0 N (imin v3 (I0 x14 (((12 : Int32) + v4)).toNatClampNeg)) (v4 + (1 : Int32))
  else none
  else
  f_X9_ageOf_L14 K v0 v1 v2 I0 J0 R0 N v3 (v4 + (1 : Int32))
  else none
  else none
  else none
def f_X9_ageOf (K : mK) (a0 : Nat) (a1 : Int32) (a2 : Bool) (I0 : mI) (J0 : mJ) (R0 : mR) : Option Int32 :=
  if (mb a2) = 0 then
  (f_X9_ageOf_L14 K a0 a1 a2 I0 J0 R0 8192 (0 : Int32) a1).bind fun z18 =>
  some z18
  else
  (f_X9_ageOf_L14 K a0 a1 a2 I0 J0 R0 8192 (120 : Int32) a1).bind fun z20 =>
  some z20
set_option maxHeartbeats 4000000 in
set_option maxRecDepth 100000 in
theorem r_X9_ageOf (l : Launch) (g : mG) (K : mK) (n : Nat) (hJ : mInj g n) (hO : mOk K n) (a0 : Nat) (a1 : Int32) (a2 : Bool) (I0 : mI) (J0 : mJ) (R0 : mR) (out : Int32) (hf : f_X9_ageOf K a0 a1 a2 I0 J0 R0 = some out) : Met l yX9_ageOf (mWs yX9_ageOf cX9_ageOf 5 (some .int)) ({ frames := 1, cells := 0, slots := 0, locals := 21 }) (va_Pc [.ref (g.2.1 a0), .int a1, .int (mb a2)] (mB g K n I0 J0 R0)) (mQ g K n (some (.int out)) I0 J0 R0) 0 0 (mA g n) := by
  unfold f_X9_ageOf at hf
  refine mStart RX9 hJ hO (by decide) rfl (Nat.le_of_ble_eq_true rfl) ?_
  intro p e s m below meth c ls Qm hQm B hr hlk hw hl
  have hx := B.1.1
  have hb := B.1.2.1
  have hl : lv_has ls 5 [(0, .ref (g.2.1 a0)), (1, .int a1), (2, .int (mb a2))] := hl
  have L14 : ∀ (N : Nat) (v0 : Nat) (v1 : Int32) (v2 : Bool) (v3 : Int32) (v4 : Int32) (z : Int32) (H : Heap) (locs : List Loc) (ls : Array Slot), f_X9_ageOf_L14 K v0 v1 v2 I0 J0 R0 N v3 v4 = some z → mHp g K n s I0 J0 R0 H locs → lv_has ls 5 [(0, .ref (g.2.1 v0)), (1, .int v1), (2, .int (mb v2)), (3, .int v3), (4, .int v4)] → (∀ (H : Heap) (locs : List Loc) (ls : Array Slot), mHp g K n s I0 J0 R0 H locs → lv_has ls 5 [(3, .int z)] → W p l e ({ frames := 1, cells := 0, slots := 0, locals := 21 } : Room) s m ([.ref (g.2.1 a0), .int a1, .int (mb a2)] : List Value).toArray below meth c H locs 0 0 Qm (F0 m 81 ls [])) → W p l e ({ frames := 1, cells := 0, slots := 0, locals := 21 } : Room) s m ([.ref (g.2.1 a0), .int a1, .int (mb a2)] : List Value).toArray below meth c H locs 0 0 Qm (F0 m 14 ls []) := by
    intro N
    induction N with
    | zero =>
      intro v0 v1 v2 v3 v4  z H locs ls hf hw hl kx
      rw [f_X9_ageOf_L14] at hf
      cases hf
    | succ N ih =>
      intro v0 v1 v2 v3 v4  z H locs ls hf hw hl kx
      rw [f_X9_ageOf_L14] at hf
      refine lv_iload hx hb dX9_ageOf_14 (lv_at hl 4 rfl) ?_
      refine lv_aload_n hx hb dX9_ageOf_16 rfl (lv_at hl 0 rfl) ?_
      obtain ⟨h1, hf⟩ := mChk hf
      obtain ⟨x2, e3, hf⟩ := mBind hf
      refine mgr B hw flX9_7 rfl h1 e3 dX9_ageOf_17 ?_
      refine lv_iconst (v := (1 : Int32)) hx hb dX9_ageOf_20 (by decide) ?_
      obtain ⟨h4, hf⟩ := mChk hf
      refine mld1 B hw h4 dX9_ageOf_21 ?_
      refine lv_icmp_ge (tgt := 81) hx hb dX9_ageOf_22 (by decide) (fun c5 => ?_) (fun c5 => ?_)
      · replace hf := mT1 c5 hf
        obtain rfl := Option.some.inj hf
        exact kx _ _ _ hw (lv_sub hl [3] rfl)
      · replace hf := mF1 c5 hf
        refine lv_aload_n hx hb dX9_ageOf_25 rfl (lv_at hl 0 rfl) ?_
        obtain ⟨x6, e7, hf⟩ := mBind hf
        refine mgr B hw flX9_25 rfl h1 e7 dX9_ageOf_26 ?_
        refine lv_iload hx hb dX9_ageOf_29 (lv_at hl 4 rfl) ?_
        obtain ⟨h8, hf⟩ := mChk hf
        refine mld1 B hw h8 dX9_ageOf_31 ?_
        refine lv_iload_n hx hb dX9_ageOf_32 rfl (lv_at hl 1 rfl) ?_
        refine lv_icmp_eq (tgt := 39) hx hb dX9_ageOf_33 (by decide) (fun c9 => ?_) (fun c9 => ?_)
        · replace hf := mT1 c9 hf
          refine lv_iload_n hx hb dX9_ageOf_39 rfl (lv_at hl 2 rfl) ?_
          refine lv_if_eq (tgt := 60) hx hb dX9_ageOf_40 (by decide) (fun c10 => ?_) (fun c10 => ?_)
          · replace hf := mT1 c10 hf
            refine lv_iload_n hx hb dX9_ageOf_60 rfl (lv_at hl 3 rfl) ?_
            refine lv_aload_n hx hb dX9_ageOf_61 rfl (lv_at hl 0 rfl) ?_
            obtain ⟨x11, e12, hf⟩ := mBind hf
            refine mgr B hw flX9_16 rfl h1 e12 dX9_ageOf_62 ?_
            refine lv_bipush (v := (12 : Int32)) hx hb dX9_ageOf_65 (by decide) ?_
            refine lv_iload hx hb dX9_ageOf_67 (lv_at hl 4 rfl) ?_
            refine lv_iadd hx hb dX9_ageOf_69 ?_
            obtain ⟨h13, hf⟩ := mChk hf
            refine mld1 B hw h13 dX9_ageOf_70 ?_
            refine mmmax B hl.1 mhX9_82 (Nat.le_of_ble_eq_true rfl) (Nat.le_of_ble_eq_true rfl) (Nat.zero_le _) (Nat.zero_le _) dX9_ageOf_71 ?_
            refine lv_istore_n (lv' := [(3, .int (imax v3 (I0 x11 (((12 : Int32) + v4)).toNatClampNeg))), (0, .ref (g.2.1 v0)), (1, .int v1), (2, .int (mb v2)), (4, .int v4)]) hx hb dX9_ageOf_74 rfl hl (by decide) rfl (fun ls hl => ?_)
            refine lv_iinc (v := (v4 + (1 : Int32))) (lv' := [(4, .int (v4 + (1 : Int32))), (3, .int (imax v3 (I0 x11 (((12 : Int32) + v4)).toNatClampNeg))), (0, .ref (g.2.1 v0)), (1, .int v1), (2, .int (mb v2))]) hx hb dX9_ageOf_75 hl (k := 4) rfl rfl (by decide) rfl (fun ls hl => ?_)
            refine lv_goto (tgt := 14) hx hb dX9_ageOf_78 (by decide) ?_
            exact ih v0 v1 v2 (imax v3 (I0 x11 (((12 : Int32) + v4)).toNatClampNeg)) (v4 + (1 : Int32)) z _ _ _ hf hw (lv_sub hl [2, 3, 4, 1, 0] rfl) kx
          · replace hf := mF1 c10 hf
            refine lv_iload_n hx hb dX9_ageOf_43 rfl (lv_at hl 3 rfl) ?_
            refine lv_aload_n hx hb dX9_ageOf_44 rfl (lv_at hl 0 rfl) ?_
            obtain ⟨x14, e15, hf⟩ := mBind hf
            refine mgr B hw flX9_19 rfl h1 e15 dX9_ageOf_45 ?_
            refine lv_bipush (v := (12 : Int32)) hx hb dX9_ageOf_48 (by decide) ?_
            refine lv_iload hx hb dX9_ageOf_50 (lv_at hl 4 rfl) ?_
            refine lv_iadd hx hb dX9_ageOf_52 ?_
            obtain ⟨h16, hf⟩ := mChk hf
            refine mld1 B hw h16 dX9_ageOf_53 ?_
            refine mmmin B hl.1 mhX9_76 (Nat.le_of_ble_eq_true rfl) (Nat.le_of_ble_eq_true rfl) (Nat.zero_le _) (Nat.zero_le _) dX9_ageOf_54 ?_
            refine lv_goto (tgt := 74) hx hb dX9_ageOf_57 (by decide) ?_
            refine lv_istore_n (lv' := [(3, .int (imin v3 (I0 x14 (((12 : Int32) + v4)).toNatClampNeg))), (0, .ref (g.2.1 v0)), (1, .int v1), (2, .int (mb v2)), (4, .int v4)]) hx hb dX9_ageOf_74 rfl hl (by decide) rfl (fun ls hl => ?_)
            refine lv_iinc (v := (v4 + (1 : Int32))) (lv' := [(4, .int (v4 + (1 : Int32))), (3, .int (imin v3 (I0 x14 (((12 : Int32) + v4)).toNatClampNeg))), (0, .ref (g.2.1 v0)), (1, .int v1), (2, .int (mb v2))]) hx hb dX9_ageOf_75 hl (k := 4) rfl rfl (by decide) rfl (fun ls hl => ?_)
            refine lv_goto (tgt := 14) hx hb dX9_ageOf_78 (by decide) ?_
            exact ih v0 v1 v2 (imin v3 (I0 x14 (((12 : Int32) + v4)).toNatClampNeg)) (v4 + (1 : Int32)) z _ _ _ hf hw (lv_sub hl [2, 3, 4, 1, 0] rfl) kx
        · replace hf := mF1 c9 hf
          refine lv_goto (tgt := 75) hx hb dX9_ageOf_36 (by decide) ?_
          refine lv_iinc (v := (v4 + (1 : Int32))) (lv' := [(4, .int (v4 + (1 : Int32))), (0, .ref (g.2.1 v0)), (1, .int v1), (2, .int (mb v2)), (3, .int v3)]) hx hb dX9_ageOf_75 hl (k := 4) rfl rfl (by decide) rfl (fun ls hl => ?_)
          refine lv_goto (tgt := 14) hx hb dX9_ageOf_78 (by decide) ?_
          exact ih v0 v1 v2 v3 (v4 + (1 : Int32)) z _ _ _ hf hw (lv_sub hl [1, 2, 3, 4, 0] rfl) kx
  refine lv_iload_n hx hb dX9_ageOf_0 rfl (lv_at hl 2 rfl) ?_
  refine lv_if_eq (tgt := 9) hx hb dX9_ageOf_1 (by decide) (fun c17 => ?_) (fun c17 => ?_)
  · replace hf := mT1 c17 hf
    refine lv_iconst (v := (0 : Int32)) hx hb dX9_ageOf_9 (by decide) ?_
    refine lv_istore_n (lv' := [(3, .int (0 : Int32)), (0, .ref (g.2.1 a0)), (1, .int a1), (2, .int (mb a2))]) hx hb dX9_ageOf_10 rfl hl (by decide) rfl (fun ls hl => ?_)
    refine lv_iload_n hx hb dX9_ageOf_11 rfl (lv_at hl 2 rfl) ?_
    refine lv_istore (lv' := [(4, .int a1), (3, .int (0 : Int32)), (0, .ref (g.2.1 a0)), (1, .int a1), (2, .int (mb a2))]) hx hb dX9_ageOf_12 hl (by decide) rfl (fun ls hl => ?_)
    obtain ⟨z18, e19, hf⟩ := mBind hf
    refine L14 8192 a0 a1 a2 (0 : Int32) a1 z18 _ _ _ e19 hw (lv_sub hl [2, 3, 4, 1, 0] rfl) (fun H locs ls hw hl => ?_)
    refine lv_iload_n hx hb dX9_ageOf_81 rfl (lv_at hl 0 rfl) ?_
    rw [hQm, ← Option.some.inj hf]
    exact mri hx hb hr hlk hw dX9_ageOf_82
  · replace hf := mF1 c17 hf
    refine lv_bipush (v := (120 : Int32)) hx hb dX9_ageOf_4 (by decide) ?_
    refine lv_goto (tgt := 10) hx hb dX9_ageOf_6 (by decide) ?_
    refine lv_istore_n (lv' := [(3, .int (120 : Int32)), (0, .ref (g.2.1 a0)), (1, .int a1), (2, .int (mb a2))]) hx hb dX9_ageOf_10 rfl hl (by decide) rfl (fun ls hl => ?_)
    refine lv_iload_n hx hb dX9_ageOf_11 rfl (lv_at hl 2 rfl) ?_
    refine lv_istore (lv' := [(4, .int a1), (3, .int (120 : Int32)), (0, .ref (g.2.1 a0)), (1, .int a1), (2, .int (mb a2))]) hx hb dX9_ageOf_12 hl (by decide) rfl (fun ls hl => ?_)
    obtain ⟨z20, e21, hf⟩ := mBind hf
    refine L14 8192 a0 a1 a2 (120 : Int32) a1 z20 _ _ _ e21 hw (lv_sub hl [2, 3, 4, 1, 0] rfl) (fun H locs ls hw hl => ?_)
    refine lv_iload_n hx hb dX9_ageOf_81 rfl (lv_at hl 0 rfl) ?_
    rw [hQm, ← Option.some.inj hf]
    exact mri hx hb hr hlk hw dX9_ageOf_82
def f_X9_areUnlike (K : mK) (a0 : Int32) (a1 : Int32) (I0 : mI) (J0 : mJ) (R0 : mR) : Option Bool :=
  if a0 = 0 then
  some false
  else
  if a1 = 0 then
  some false
  else
  if a0 = a1 then
  some false
  else
  some true
set_option maxHeartbeats 4000000 in
set_option maxRecDepth 100000 in
theorem r_X9_areUnlike (l : Launch) (g : mG) (K : mK) (n : Nat) (hJ : mInj g n) (hO : mOk K n) (a0 : Int32) (a1 : Int32) (I0 : mI) (J0 : mJ) (R0 : mR) (out : Bool) (hf : f_X9_areUnlike K a0 a1 I0 J0 R0 = some out) : Met l yX9_areUnlike (mWs yX9_areUnlike cX9_areUnlike 2 (some .boolean)) ({ frames := 0, cells := 0, slots := 0, locals := 0 }) (va_Pc [.int a0, .int a1] (mB g K n I0 J0 R0)) (mQ g K n (some (.int (mb out))) I0 J0 R0) 0 0 (mA g n) := by
  unfold f_X9_areUnlike at hf
  refine mStart RX9 hJ hO (by decide) rfl (Nat.le_of_ble_eq_true rfl) ?_
  intro p e s m below meth c ls Qm hQm B hr hlk hw hl
  have hx := B.1.1
  have hb := B.1.2.1
  have hl : lv_has ls 2 [(0, .int a0), (1, .int a1)] := hl
  refine lv_iload_n hx hb dX9_areUnlike_0 rfl (lv_at hl 0 rfl) ?_
  refine lv_if_eq (tgt := 17) hx hb dX9_areUnlike_1 (by decide) (fun c1 => ?_) (fun c1 => ?_)
  · replace hf := mT1 c1 hf
    refine lv_iconst (v := (0 : Int32)) hx hb dX9_areUnlike_17 (by decide) ?_
    rw [hQm, ← Option.some.inj hf]
    exact mrz (v := false) hx hb hr hlk hw dX9_areUnlike_18
  · replace hf := mF1 c1 hf
    refine lv_iload_n hx hb dX9_areUnlike_4 rfl (lv_at hl 1 rfl) ?_
    refine lv_if_eq (tgt := 17) hx hb dX9_areUnlike_5 (by decide) (fun c2 => ?_) (fun c2 => ?_)
    · replace hf := mT1 c2 hf
      refine lv_iconst (v := (0 : Int32)) hx hb dX9_areUnlike_17 (by decide) ?_
      rw [hQm, ← Option.some.inj hf]
      exact mrz (v := false) hx hb hr hlk hw dX9_areUnlike_18
    · replace hf := mF1 c2 hf
      refine lv_iload_n hx hb dX9_areUnlike_8 rfl (lv_at hl 0 rfl) ?_
      refine lv_iload_n hx hb dX9_areUnlike_9 rfl (lv_at hl 1 rfl) ?_
      refine lv_icmp_eq (tgt := 17) hx hb dX9_areUnlike_10 (by decide) (fun c3 => ?_) (fun c3 => ?_)
      · replace hf := mT1 c3 hf
        refine lv_iconst (v := (0 : Int32)) hx hb dX9_areUnlike_17 (by decide) ?_
        rw [hQm, ← Option.some.inj hf]
        exact mrz (v := false) hx hb hr hlk hw dX9_areUnlike_18
      · replace hf := mF1 c3 hf
        refine lv_iconst (v := (1 : Int32)) hx hb dX9_areUnlike_13 (by decide) ?_
        refine lv_goto (tgt := 18) hx hb dX9_areUnlike_14 (by decide) ?_
        rw [hQm, ← Option.some.inj hf]
        exact mrz (v := true) hx hb hr hlk hw dX9_areUnlike_18
def f_X9_unfit_L129 (K : mK) (v0 : Nat) (v3 : Int32) (v4 : Int32) (I0 : mI) (J0 : mJ) (R0 : mR) : Nat → Int32 → Option (Int32 ⊕ Unit)
  | 0, _ => none
  | N + 1, v5 =>
  if (16 : Int32) ≤ v5 then
  some (Sum.inr ())
  else
  if K v0 = (0, 9) then
  (f_X9_ofBody K v0 v3 v5 I0 J0 R0).bind fun z3 =>
  (f_X9_ofBody K v0 v4 v5 I0 J0 R0).bind fun z5 =>
  (f_X9_areUnlike K z3 z5 I0 J0 R0).bind fun z7 =>
  if (mb z7) = 0 then
  f_X9_unfit_L129 K v0 v3 v4 I0 J0 R0 N (v5 + (1 : Int32))
  else
  some (Sum.inl (5 : Int32))
  else none
def f_X9_unfit (K : mK) (a0 : Nat) (a1 : Int32) (a2 : Int32) (I0 : mI) (J0 : mJ) (R0 : mR) : Option Int32 :=
  if K a0 = (0, 9) then
  (f_X9_isFile K a0 (1 : Int32) a1 I0 J0 R0).bind fun z11 =>
  if (mb z11) = 0 then
  some (1 : Int32)
  else
  (f_X9_isFile K a0 (1 : Int32) a2 I0 J0 R0).bind fun z14 =>
  if (mb z14) = 0 then
  some (1 : Int32)
  else
  (R0 a0 5).bind fun x17 =>
  if mIx K x17 1 a1 then
  if mIx K x17 1 a2 then
  if (I0 x17 (a1).toNatClampNeg) = (I0 x17 (a2).toNatClampNeg) then
  some (1 : Int32)
  else
  (f_X9_piecesOf K a0 (I0 x17 (a1).toNatClampNeg) I0 J0 R0).bind fun z22 =>
  (f_X9_piecesOf K a0 (I0 x17 (a2).toNatClampNeg) I0 J0 R0).bind fun z24 =>
  if (z22 &&& z24) = 0 then
  (f_X9_ofBody K a0 (I0 x17 (a1).toNatClampNeg) (0 : Int32) I0 J0 R0).bind fun z27 =>
  (f_X9_ofBody K a0 (I0 x17 (a2).toNatClampNeg) (0 : Int32) I0 J0 R0).bind fun z29 =>
  (f_X9_areUnlike K z27 z29 I0 J0 R0).bind fun z31 =>
  if (mb z31) = 0 then
  (f_X9_ageOf K a0 (I0 x17 (a1).toNatClampNeg) false I0 J0 R0).bind fun z34 =>
  (f_X9_ageOf K a0 (I0 x17 (a2).toNatClampNeg) false I0 J0 R0).bind fun z36 =>
  (f_X9_ageOf K a0 (I0 x17 (a1).toNatClampNeg) true I0 J0 R0).bind fun z38 =>
  (f_X9_ageOf K a0 (I0 x17 (a2).toNatClampNeg) true I0 J0 R0).bind fun z40 =>
  if (imax z34 z36) ≤ (imin z38 z40) then
  (f_X9_unfit_L129 K a0 (I0 x17 (a1).toNatClampNeg) (I0 x17 (a2).toNatClampNeg) I0 J0 R0 8192 (13 : Int32)).bind fun z43 => Sum.elim (fun o => some o) (fun w45 =>
  (R0 a0 6).bind fun x46 =>
  if mIx K x46 1 (I0 x17 (a1).toNatClampNeg) then
  if (I0 x46 ((I0 x17 (a1).toNatClampNeg)).toNatClampNeg) = (-1 : Int32) then
  if mIx K x46 1 (I0 x17 (a2).toNatClampNeg) then
  if (I0 x46 ((I0 x17 (a2).toNatClampNeg)).toNatClampNeg) = (-1 : Int32) then
  some (0 : Int32)
  else
  some (6 : Int32)
  else none
  else
  some (6 : Int32)
  else none) z43
  else
  some (4 : Int32)
  else
  some (3 : Int32)
  else
  some (2 : Int32)
  else none
  else none
  else none
set_option maxHeartbeats 4000000 in
set_option maxRecDepth 100000 in
theorem r_X9_unfit (l : Launch) (g : mG) (K : mK) (n : Nat) (hJ : mInj g n) (hO : mOk K n) (a0 : Nat) (a1 : Int32) (a2 : Int32) (I0 : mI) (J0 : mJ) (R0 : mR) (out : Int32) (hf : f_X9_unfit K a0 a1 a2 I0 J0 R0 = some out) : Met l yX9_unfit (mWs yX9_unfit cX9_unfit 6 (some .int)) ({ frames := 2, cells := 0, slots := 0, locals := 45 }) (va_Pc [.ref (g.2.1 a0), .int a1, .int a2] (mB g K n I0 J0 R0)) (mQ g K n (some (.int out)) I0 J0 R0) 0 0 (mA g n) := by
  unfold f_X9_unfit at hf
  refine mStart RX9 hJ hO (by decide) rfl (Nat.le_of_ble_eq_true rfl) ?_
  intro p e s m below meth c ls Qm hQm B hr hlk hw hl
  have hx := B.1.1
  have hb := B.1.2.1
  have hl : lv_has ls 6 [(0, .ref (g.2.1 a0)), (1, .int a1), (2, .int a2)] := hl
  have L129 : ∀ (N : Nat) (v0 : Nat) (v3 : Int32) (v4 : Int32) (v5 : Int32) (z : (Int32 ⊕ Unit)) (H : Heap) (locs : List Loc) (ls : Array Slot), f_X9_unfit_L129 K v0 v3 v4 I0 J0 R0 N v5 = some z → mHp g K n s I0 J0 R0 H locs → lv_has ls 6 [(0, .ref (g.2.1 v0)), (3, .int v3), (4, .int v4), (5, .int v5)] → (∀ w, z = Sum.inr w → (∀ (H : Heap) (locs : List Loc) (ls : Array Slot), mHp g K n s I0 J0 R0 H locs → lv_has ls 6 [(0, .ref (g.2.1 v0)), (3, .int v3), (4, .int v4)] → W p l e ({ frames := 2, cells := 0, slots := 0, locals := 45 } : Room) s m ([.ref (g.2.1 a0), .int a1, .int a2] : List Value).toArray below meth c H locs 0 0 Qm (F0 m 165 ls []))) → (∀ o, z = Sum.inl o → o = out) → W p l e ({ frames := 2, cells := 0, slots := 0, locals := 45 } : Room) s m ([.ref (g.2.1 a0), .int a1, .int a2] : List Value).toArray below meth c H locs 0 0 Qm (F0 m 129 ls []) := by
    intro N
    induction N with
    | zero =>
      intro v0 v3 v4 v5  z H locs ls hf hw hl kx ko
      rw [f_X9_unfit_L129] at hf
      cases hf
    | succ N ih =>
      intro v0 v3 v4 v5  z H locs ls hf hw hl kx ko
      rw [f_X9_unfit_L129] at hf
      refine lv_iload hx hb dX9_unfit_129 (lv_at hl 3 rfl) ?_
      refine lv_bipush (v := (16 : Int32)) hx hb dX9_unfit_131 (by decide) ?_
      refine lv_icmp_ge (tgt := 165) hx hb dX9_unfit_133 (by decide) (fun c1 => ?_) (fun c1 => ?_)
      · replace hf := mT1 c1 hf
        obtain rfl := Option.some.inj hf
        exact kx _ rfl _ _ _ hw (lv_sub hl [0, 1, 2] rfl)
      · replace hf := mF1 c1 hf
        refine lv_aload_n hx hb dX9_unfit_136 rfl (lv_at hl 0 rfl) ?_
        refine lv_iload_n hx hb dX9_unfit_137 rfl (lv_at hl 1 rfl) ?_
        refine lv_iload hx hb dX9_unfit_138 (lv_at hl 3 rfl) ?_
        obtain ⟨h2, hf⟩ := mChk hf
        obtain ⟨z3, e4, hf⟩ := mBind hf
        refine mcallV (rest := []) (ci := 9) B hw [.int v3, .int v5] clX9_89 rfl h2 (r_X9_ofBody l g K n hJ hO v0 v3 v5 I0 J0 R0 z3 e4) ⟨rfl, rfl, Nat.le_of_ble_eq_true rfl, Nat.le_of_ble_eq_true rfl⟩ rfl hl.1 (Nat.le_of_ble_eq_true rfl) ⟨Nat.zero_le _, Nat.zero_le _⟩ dX9_unfit_140 (fun H locs hw => ?_)
        refine W.eq (g2 := F0 m 143 ls [.int z3]) rfl ?_
        refine lv_aload_n hx hb dX9_unfit_143 rfl (lv_at hl 0 rfl) ?_
        refine lv_iload hx hb dX9_unfit_144 (lv_at hl 2 rfl) ?_
        refine lv_iload hx hb dX9_unfit_146 (lv_at hl 3 rfl) ?_
        obtain ⟨z5, e6, hf⟩ := mBind hf
        refine mcallV (rest := [.int z3]) (ci := 9) B hw [.int v4, .int v5] clX9_89 rfl h2 (r_X9_ofBody l g K n hJ hO v0 v4 v5 I0 J0 R0 z5 e6) ⟨rfl, rfl, Nat.le_of_ble_eq_true rfl, Nat.le_of_ble_eq_true rfl⟩ rfl hl.1 (Nat.le_of_ble_eq_true rfl) ⟨Nat.zero_le _, Nat.zero_le _⟩ dX9_unfit_148 (fun H locs hw => ?_)
        refine W.eq (g2 := F0 m 151 ls [.int z5, .int z3]) rfl ?_
        obtain ⟨z7, e8, hf⟩ := mBind hf
        refine mcallS (rest := []) B hw [.int z3, .int z5] clX9_92 (r_X9_areUnlike l g K n hJ hO z3 z5 I0 J0 R0 z7 e8) ⟨rfl, rfl, Nat.le_of_ble_eq_true rfl, Nat.le_of_ble_eq_true rfl⟩ rfl hl.1 (Nat.le_of_ble_eq_true rfl) ⟨Nat.zero_le _, Nat.zero_le _⟩ dX9_unfit_151 (fun H locs hw => ?_)
        refine W.eq (g2 := F0 m 154 ls [.int (mb z7)]) rfl ?_
        refine lv_if_eq (tgt := 159) hx hb dX9_unfit_154 (by decide) (fun c9 => ?_) (fun c9 => ?_)
        · replace hf := mT1 c9 hf
          refine lv_iinc (v := (v5 + (1 : Int32))) (lv' := [(5, .int (v5 + (1 : Int32))), (0, .ref (g.2.1 v0)), (3, .int v3), (4, .int v4)]) hx hb dX9_unfit_159 hl (k := 3) rfl rfl (by decide) rfl (fun ls hl => ?_)
          refine lv_goto (tgt := 129) hx hb dX9_unfit_162 (by decide) ?_
          exact ih v0 v3 v4 (v5 + (1 : Int32)) z _ _ _ hf hw (lv_sub hl [1, 2, 3, 0] rfl) kx ko
        · replace hf := mF1 c9 hf
          refine lv_iconst (v := (5 : Int32)) hx hb dX9_unfit_157 (by decide) ?_
          rw [hQm, ← ko _ (Option.some.inj hf).symm]
          exact mri hx hb hr hlk hw dX9_unfit_158
  refine lv_aload_n hx hb dX9_unfit_0 rfl (lv_at hl 0 rfl) ?_
  refine lv_iconst (v := (1 : Int32)) hx hb dX9_unfit_1 (by decide) ?_
  refine lv_iload_n hx hb dX9_unfit_2 rfl (lv_at hl 1 rfl) ?_
  obtain ⟨h10, hf⟩ := mChk hf
  obtain ⟨z11, e12, hf⟩ := mBind hf
  refine mcallV (rest := []) (ci := 9) B hw [.int (1 : Int32), .int a1] clX9_68 rfl h10 (r_X9_isFile l g K n hJ hO a0 (1 : Int32) a1 I0 J0 R0 z11 e12) ⟨rfl, rfl, Nat.le_of_ble_eq_true rfl, Nat.le_of_ble_eq_true rfl⟩ rfl hl.1 (Nat.le_of_ble_eq_true rfl) ⟨Nat.zero_le _, Nat.zero_le _⟩ dX9_unfit_3 (fun H locs hw => ?_)
  refine W.eq (g2 := F0 m 6 ls [.int (mb z11)]) rfl ?_
  refine lv_if_eq (tgt := 33) hx hb dX9_unfit_6 (by decide) (fun c13 => ?_) (fun c13 => ?_)
  · replace hf := mT1 c13 hf
    refine lv_iconst (v := (1 : Int32)) hx hb dX9_unfit_33 (by decide) ?_
    rw [hQm, ← Option.some.inj hf]
    exact mri hx hb hr hlk hw dX9_unfit_34
  · replace hf := mF1 c13 hf
    refine lv_aload_n hx hb dX9_unfit_9 rfl (lv_at hl 0 rfl) ?_
    refine lv_iconst (v := (1 : Int32)) hx hb dX9_unfit_10 (by decide) ?_
    refine lv_iload_n hx hb dX9_unfit_11 rfl (lv_at hl 2 rfl) ?_
    obtain ⟨z14, e15, hf⟩ := mBind hf
    refine mcallV (rest := []) (ci := 9) B hw [.int (1 : Int32), .int a2] clX9_68 rfl h10 (r_X9_isFile l g K n hJ hO a0 (1 : Int32) a2 I0 J0 R0 z14 e15) ⟨rfl, rfl, Nat.le_of_ble_eq_true rfl, Nat.le_of_ble_eq_true rfl⟩ rfl hl.1 (Nat.le_of_ble_eq_true rfl) ⟨Nat.zero_le _, Nat.zero_le _⟩ dX9_unfit_12 (fun H locs hw => ?_)
    refine W.eq (g2 := F0 m 15 ls [.int (mb z14)]) rfl ?_
    refine lv_if_eq (tgt := 33) hx hb dX9_unfit_15 (by decide) (fun c16 => ?_) (fun c16 => ?_)
    · replace hf := mT1 c16 hf
      refine lv_iconst (v := (1 : Int32)) hx hb dX9_unfit_33 (by decide) ?_
      rw [hQm, ← Option.some.inj hf]
      exact mri hx hb hr hlk hw dX9_unfit_34
    · replace hf := mF1 c16 hf
      refine lv_aload_n hx hb dX9_unfit_18 rfl (lv_at hl 0 rfl) ?_
      obtain ⟨x17, e18, hf⟩ := mBind hf
      refine mgr B hw flX9_25 rfl h10 e18 dX9_unfit_19 ?_
      refine lv_iload_n hx hb dX9_unfit_22 rfl (lv_at hl 1 rfl) ?_
      obtain ⟨h19, hf⟩ := mChk hf
      refine mld1 B hw h19 dX9_unfit_23 ?_
      refine lv_aload_n hx hb dX9_unfit_24 rfl (lv_at hl 0 rfl) ?_
      refine mgr B hw flX9_25 rfl h10 e18 dX9_unfit_25 ?_
      refine lv_iload_n hx hb dX9_unfit_28 rfl (lv_at hl 2 rfl) ?_
      obtain ⟨h20, hf⟩ := mChk hf
      refine mld1 B hw h20 dX9_unfit_29 ?_
      refine lv_icmp_ne (tgt := 35) hx hb dX9_unfit_30 (by decide) (fun c21 => ?_) (fun c21 => ?_)
      · replace hf := mF1 c21 hf
        refine lv_aload_n hx hb dX9_unfit_35 rfl (lv_at hl 0 rfl) ?_
        refine mgr B hw flX9_25 rfl h10 e18 dX9_unfit_36 ?_
        refine lv_iload_n hx hb dX9_unfit_39 rfl (lv_at hl 1 rfl) ?_
        refine mld1 B hw h19 dX9_unfit_40 ?_
        refine lv_istore_n (lv' := [(3, .int (I0 x17 (a1).toNatClampNeg)), (0, .ref (g.2.1 a0)), (1, .int a1), (2, .int a2)]) hx hb dX9_unfit_41 rfl hl (by decide) rfl (fun ls hl => ?_)
        refine lv_aload_n hx hb dX9_unfit_42 rfl (lv_at hl 1 rfl) ?_
        refine mgr B hw flX9_25 rfl h10 e18 dX9_unfit_43 ?_
        refine lv_iload_n hx hb dX9_unfit_46 rfl (lv_at hl 3 rfl) ?_
        refine mld1 B hw h20 dX9_unfit_47 ?_
        refine lv_istore (lv' := [(4, .int (I0 x17 (a2).toNatClampNeg)), (3, .int (I0 x17 (a1).toNatClampNeg)), (0, .ref (g.2.1 a0)), (1, .int a1), (2, .int a2)]) hx hb dX9_unfit_48 hl (by decide) rfl (fun ls hl => ?_)
        refine lv_aload_n hx hb dX9_unfit_50 rfl (lv_at hl 2 rfl) ?_
        refine lv_iload_n hx hb dX9_unfit_51 rfl (lv_at hl 1 rfl) ?_
        obtain ⟨z22, e23, hf⟩ := mBind hf
        refine mcallV (rest := []) (ci := 9) B hw [.int (I0 x17 (a1).toNatClampNeg)] clX9_85 rfl h10 (r_X9_piecesOf l g K n hJ hO a0 (I0 x17 (a1).toNatClampNeg) I0 J0 R0 z22 e23) ⟨rfl, rfl, Nat.le_of_ble_eq_true rfl, Nat.le_of_ble_eq_true rfl⟩ rfl hl.1 (Nat.le_of_ble_eq_true rfl) ⟨Nat.zero_le _, Nat.zero_le _⟩ dX9_unfit_52 (fun H locs hw => ?_)
        refine W.eq (g2 := F0 m 55 ls [.int z22]) rfl ?_
        refine lv_aload_n hx hb dX9_unfit_55 rfl (lv_at hl 2 rfl) ?_
        refine lv_iload hx hb dX9_unfit_56 (lv_at hl 0 rfl) ?_
        obtain ⟨z24, e25, hf⟩ := mBind hf
        refine mcallV (rest := [.int z22]) (ci := 9) B hw [.int (I0 x17 (a2).toNatClampNeg)] clX9_85 rfl h10 (r_X9_piecesOf l g K n hJ hO a0 (I0 x17 (a2).toNatClampNeg) I0 J0 R0 z24 e25) ⟨rfl, rfl, Nat.le_of_ble_eq_true rfl, Nat.le_of_ble_eq_true rfl⟩ rfl hl.1 (Nat.le_of_ble_eq_true rfl) ⟨Nat.zero_le _, Nat.zero_le _⟩ dX9_unfit_58 (fun H locs hw => ?_)
        refine W.eq (g2 := F0 m 61 ls [.int z24, .int z22]) rfl ?_
        refine lv_iand hx hb dX9_unfit_61 ?_
        refine lv_if_eq (tgt := 67) hx hb dX9_unfit_62 (by decide) (fun c26 => ?_) (fun c26 => ?_)
        · replace hf := mT1 c26 hf
          refine lv_aload_n hx hb dX9_unfit_67 rfl (lv_at hl 2 rfl) ?_
          refine lv_iload_n hx hb dX9_unfit_68 rfl (lv_at hl 1 rfl) ?_
          refine lv_iconst (v := (0 : Int32)) hx hb dX9_unfit_69 (by decide) ?_
          obtain ⟨z27, e28, hf⟩ := mBind hf
          refine mcallV (rest := []) (ci := 9) B hw [.int (I0 x17 (a1).toNatClampNeg), .int (0 : Int32)] clX9_89 rfl h10 (r_X9_ofBody l g K n hJ hO a0 (I0 x17 (a1).toNatClampNeg) (0 : Int32) I0 J0 R0 z27 e28) ⟨rfl, rfl, Nat.le_of_ble_eq_true rfl, Nat.le_of_ble_eq_true rfl⟩ rfl hl.1 (Nat.le_of_ble_eq_true rfl) ⟨Nat.zero_le _, Nat.zero_le _⟩ dX9_unfit_70 (fun H locs hw => ?_)
          refine W.eq (g2 := F0 m 73 ls [.int z27]) rfl ?_
          refine lv_aload_n hx hb dX9_unfit_73 rfl (lv_at hl 2 rfl) ?_
          refine lv_iload hx hb dX9_unfit_74 (lv_at hl 0 rfl) ?_
          refine lv_iconst (v := (0 : Int32)) hx hb dX9_unfit_76 (by decide) ?_
          obtain ⟨z29, e30, hf⟩ := mBind hf
          refine mcallV (rest := [.int z27]) (ci := 9) B hw [.int (I0 x17 (a2).toNatClampNeg), .int (0 : Int32)] clX9_89 rfl h10 (r_X9_ofBody l g K n hJ hO a0 (I0 x17 (a2).toNatClampNeg) (0 : Int32) I0 J0 R0 z29 e30) ⟨rfl, rfl, Nat.le_of_ble_eq_true rfl, Nat.le_of_ble_eq_true rfl⟩ rfl hl.1 (Nat.le_of_ble_eq_true rfl) ⟨Nat.zero_le _, Nat.zero_le _⟩ dX9_unfit_77 (fun H locs hw => ?_)
          refine W.eq (g2 := F0 m 80 ls [.int z29, .int z27]) rfl ?_
          obtain ⟨z31, e32, hf⟩ := mBind hf
          refine mcallS (rest := []) B hw [.int z27, .int z29] clX9_92 (r_X9_areUnlike l g K n hJ hO z27 z29 I0 J0 R0 z31 e32) ⟨rfl, rfl, Nat.le_of_ble_eq_true rfl, Nat.le_of_ble_eq_true rfl⟩ rfl hl.1 (Nat.le_of_ble_eq_true rfl) ⟨Nat.zero_le _, Nat.zero_le _⟩ dX9_unfit_80 (fun H locs hw => ?_)
          refine W.eq (g2 := F0 m 83 ls [.int (mb z31)]) rfl ?_
          refine lv_if_eq (tgt := 88) hx hb dX9_unfit_83 (by decide) (fun c33 => ?_) (fun c33 => ?_)
          · replace hf := mT1 c33 hf
            refine lv_aload_n hx hb dX9_unfit_88 rfl (lv_at hl 2 rfl) ?_
            refine lv_iload_n hx hb dX9_unfit_89 rfl (lv_at hl 1 rfl) ?_
            refine lv_iconst (v := (0 : Int32)) hx hb dX9_unfit_90 (by decide) ?_
            obtain ⟨z34, e35, hf⟩ := mBind hf
            refine mcallV (rest := []) (ci := 9) B hw [.int (I0 x17 (a1).toNatClampNeg), .int (mb false)] clX9_95 rfl h10 (r_X9_ageOf l g K n hJ hO a0 (I0 x17 (a1).toNatClampNeg) false I0 J0 R0 z34 e35) ⟨rfl, rfl, Nat.le_of_ble_eq_true rfl, Nat.le_of_ble_eq_true rfl⟩ rfl hl.1 (Nat.le_of_ble_eq_true rfl) ⟨Nat.zero_le _, Nat.zero_le _⟩ dX9_unfit_91 (fun H locs hw => ?_)
            refine W.eq (g2 := F0 m 94 ls [.int z34]) rfl ?_
            refine lv_aload_n hx hb dX9_unfit_94 rfl (lv_at hl 2 rfl) ?_
            refine lv_iload hx hb dX9_unfit_95 (lv_at hl 0 rfl) ?_
            refine lv_iconst (v := (0 : Int32)) hx hb dX9_unfit_97 (by decide) ?_
            obtain ⟨z36, e37, hf⟩ := mBind hf
            refine mcallV (rest := [.int z34]) (ci := 9) B hw [.int (I0 x17 (a2).toNatClampNeg), .int (mb false)] clX9_95 rfl h10 (r_X9_ageOf l g K n hJ hO a0 (I0 x17 (a2).toNatClampNeg) false I0 J0 R0 z36 e37) ⟨rfl, rfl, Nat.le_of_ble_eq_true rfl, Nat.le_of_ble_eq_true rfl⟩ rfl hl.1 (Nat.le_of_ble_eq_true rfl) ⟨Nat.zero_le _, Nat.zero_le _⟩ dX9_unfit_98 (fun H locs hw => ?_)
            refine W.eq (g2 := F0 m 101 ls [.int z36, .int z34]) rfl ?_
            refine mmmax B hl.1 mhX9_82 (Nat.le_of_ble_eq_true rfl) (Nat.le_of_ble_eq_true rfl) (Nat.zero_le _) (Nat.zero_le _) dX9_unfit_101 ?_
            refine lv_aload_n hx hb dX9_unfit_104 rfl (lv_at hl 2 rfl) ?_
            refine lv_iload_n hx hb dX9_unfit_105 rfl (lv_at hl 1 rfl) ?_
            refine lv_iconst (v := (1 : Int32)) hx hb dX9_unfit_106 (by decide) ?_
            obtain ⟨z38, e39, hf⟩ := mBind hf
            refine mcallV (rest := [.int (imax z34 z36)]) (ci := 9) B hw [.int (I0 x17 (a1).toNatClampNeg), .int (mb true)] clX9_95 rfl h10 (r_X9_ageOf l g K n hJ hO a0 (I0 x17 (a1).toNatClampNeg) true I0 J0 R0 z38 e39) ⟨rfl, rfl, Nat.le_of_ble_eq_true rfl, Nat.le_of_ble_eq_true rfl⟩ rfl hl.1 (Nat.le_of_ble_eq_true rfl) ⟨Nat.zero_le _, Nat.zero_le _⟩ dX9_unfit_107 (fun H locs hw => ?_)
            refine W.eq (g2 := F0 m 110 ls [.int z38, .int (imax z34 z36)]) rfl ?_
            refine lv_aload_n hx hb dX9_unfit_110 rfl (lv_at hl 2 rfl) ?_
            refine lv_iload hx hb dX9_unfit_111 (lv_at hl 0 rfl) ?_
            refine lv_iconst (v := (1 : Int32)) hx hb dX9_unfit_113 (by decide) ?_
            obtain ⟨z40, e41, hf⟩ := mBind hf
            refine mcallV (rest := [.int z38, .int (imax z34 z36)]) (ci := 9) B hw [.int (I0 x17 (a2).toNatClampNeg), .int (mb true)] clX9_95 rfl h10 (r_X9_ageOf l g K n hJ hO a0 (I0 x17 (a2).toNatClampNeg) true I0 J0 R0 z40 e41) ⟨rfl, rfl, Nat.le_of_ble_eq_true rfl, Nat.le_of_ble_eq_true rfl⟩ rfl hl.1 (Nat.le_of_ble_eq_true rfl) ⟨Nat.zero_le _, Nat.zero_le _⟩ dX9_unfit_114 (fun H locs hw => ?_)
            refine W.eq (g2 := F0 m 117 ls [.int z40, .int z38, .int (imax z34 z36)]) rfl ?_
            refine mmmin B hl.1 mhX9_76 (Nat.le_of_ble_eq_true rfl) (Nat.le_of_ble_eq_true rfl) (Nat.zero_le _) (Nat.zero_le _) dX9_unfit_117 ?_
            refine lv_icmp_le (tgt := 125) hx hb dX9_unfit_120 (by decide) (fun c42 => ?_) (fun c42 => ?_)
            · replace hf := mT1 c42 hf
              refine lv_bipush (v := (13 : Int32)) hx hb dX9_unfit_125 (by decide) ?_
              refine lv_istore (lv' := [(5, .int (13 : Int32)), (4, .int (I0 x17 (a2).toNatClampNeg)), (3, .int (I0 x17 (a1).toNatClampNeg)), (0, .ref (g.2.1 a0)), (1, .int a1), (2, .int a2)]) hx hb dX9_unfit_127 hl (by decide) rfl (fun ls hl => ?_)
              obtain ⟨z43, e44, hf⟩ := mBind hf
              refine L129 8192 a0 (I0 x17 (a1).toNatClampNeg) (I0 x17 (a2).toNatClampNeg) (13 : Int32) z43 _ _ _ e44 hw (lv_sub hl [3, 2, 1, 0] rfl) (fun w45 hw9 H locs ls hw hl => ?_) (fun o ho => ?_)
              · subst hw9
                replace hf := mInr hf
                refine lv_aload_n hx hb dX9_unfit_165 rfl (lv_at hl 0 rfl) ?_
                obtain ⟨x46, e47, hf⟩ := mBind hf
                refine mgr B hw flX9_28 rfl h10 e47 dX9_unfit_166 ?_
                refine lv_iload_n hx hb dX9_unfit_169 rfl (lv_at hl 1 rfl) ?_
                obtain ⟨h48, hf⟩ := mChk hf
                refine mld1 B hw h48 dX9_unfit_170 ?_
                refine lv_iconst (v := (-1 : Int32)) hx hb dX9_unfit_171 (by decide) ?_
                refine lv_icmp_ne (tgt := 186) hx hb dX9_unfit_172 (by decide) (fun c49 => ?_) (fun c49 => ?_)
                · replace hf := mF1 c49 hf
                  refine lv_bipush (v := (6 : Int32)) hx hb dX9_unfit_186 (by decide) ?_
                  refine lv_goto (tgt := 192) hx hb dX9_unfit_188 (by decide) ?_
                  rw [hQm, ← Option.some.inj hf]
                  exact mri hx hb hr hlk hw dX9_unfit_192
                · replace hf := mT1 c49 hf
                  refine lv_aload_n hx hb dX9_unfit_175 rfl (lv_at hl 0 rfl) ?_
                  refine mgr B hw flX9_28 rfl h10 e47 dX9_unfit_176 ?_
                  refine lv_iload hx hb dX9_unfit_179 (lv_at hl 2 rfl) ?_
                  obtain ⟨h50, hf⟩ := mChk hf
                  refine mld1 B hw h50 dX9_unfit_181 ?_
                  refine lv_iconst (v := (-1 : Int32)) hx hb dX9_unfit_182 (by decide) ?_
                  refine lv_icmp_eq (tgt := 191) hx hb dX9_unfit_183 (by decide) (fun c51 => ?_) (fun c51 => ?_)
                  · replace hf := mT1 c51 hf
                    refine lv_iconst (v := (0 : Int32)) hx hb dX9_unfit_191 (by decide) ?_
                    rw [hQm, ← Option.some.inj hf]
                    exact mri hx hb hr hlk hw dX9_unfit_192
                  · replace hf := mF1 c51 hf
                    refine lv_bipush (v := (6 : Int32)) hx hb dX9_unfit_186 (by decide) ?_
                    refine lv_goto (tgt := 192) hx hb dX9_unfit_188 (by decide) ?_
                    rw [hQm, ← Option.some.inj hf]
                    exact mri hx hb hr hlk hw dX9_unfit_192
              · subst ho
                exact Option.some.inj (mInl hf)
            · replace hf := mF1 c42 hf
              refine lv_iconst (v := (4 : Int32)) hx hb dX9_unfit_123 (by decide) ?_
              rw [hQm, ← Option.some.inj hf]
              exact mri hx hb hr hlk hw dX9_unfit_124
          · replace hf := mF1 c33 hf
            refine lv_iconst (v := (3 : Int32)) hx hb dX9_unfit_86 (by decide) ?_
            rw [hQm, ← Option.some.inj hf]
            exact mri hx hb hr hlk hw dX9_unfit_87
        · replace hf := mF1 c26 hf
          refine lv_iconst (v := (2 : Int32)) hx hb dX9_unfit_65 (by decide) ?_
          rw [hQm, ← Option.some.inj hf]
          exact mri hx hb hr hlk hw dX9_unfit_66
      · replace hf := mT1 c21 hf
        refine lv_iconst (v := (1 : Int32)) hx hb dX9_unfit_33 (by decide) ?_
        rw [hQm, ← Option.some.inj hf]
        exact mri hx hb hr hlk hw dX9_unfit_34
def f_X9_join_L47 (K : mK) (v0 : Nat) (v3 : Int32) (v4 : Int32) (J0 : mJ) (R0 : mR) : Nat → Int32 → mI → Option mI
  | 0, _, _ => none
  | N + 1, v5, I =>
  if K v0 = (0, 9) then
  (R0 v0 0).bind fun x2 =>
  if mIx K x2 1 (1 : Int32) then
  if (I x2 ((1 : Int32)).toNatClampNeg) ≤ v5 then
  some I
  else
  (R0 v0 5).bind fun x6 =>
  if mIx K x6 1 v5 then
  if (I x6 (v5).toNatClampNeg) = v4 then
  (some (mup I x6 (v5).toNatClampNeg v3)).bind fun I10 =>
  f_X9_join_L47 K v0 v3 v4 J0 R0 N (v5 + (1 : Int32)) I10
  else
  f_X9_join_L47 K v0 v3 v4 J0 R0 N (v5 + (1 : Int32)) I
  else none
  else none
  else none
def f_X9_join (K : mK) (a0 : Nat) (a1 : Int32) (a2 : Int32) (I0 : mI) (J0 : mJ) (R0 : mR) : Option (Bool × mI) :=
  if K a0 = (0, 9) then
  (f_X9_unfit K a0 a1 a2 I0 J0 R0).bind fun z13 =>
  if z13 = 0 then
  (R0 a0 5).bind fun x16 =>
  if mIx K x16 1 a1 then
  if mIx K x16 1 a2 then
  (some (imin (I0 x16 (a1).toNatClampNeg) (I0 x16 (a2).toNatClampNeg))).bind fun y20 =>
  (some (imax (I0 x16 (a1).toNatClampNeg) (I0 x16 (a2).toNatClampNeg))).bind fun y22 =>
  (f_X9_join_L47 K a0 y20 y22 J0 R0 8192 (0 : Int32) I0).bind fun z24 =>
  some (true, z24)
  else none
  else none
  else
  some (false, I0)
  else none
set_option maxHeartbeats 4000000 in
set_option maxRecDepth 100000 in
theorem r_X9_join (l : Launch) (g : mG) (K : mK) (n : Nat) (hJ : mInj g n) (hO : mOk K n) (a0 : Nat) (a1 : Int32) (a2 : Int32) (I0 : mI) (J0 : mJ) (R0 : mR) (out : (Bool × mI)) (hf : f_X9_join K a0 a1 a2 I0 J0 R0 = some out) : Met l yX9_join (mWs yX9_join cX9_join 6 (some .boolean)) ({ frames := 3, cells := 0, slots := 0, locals := 70 }) (va_Pc [.ref (g.2.1 a0), .int a1, .int a2] (mB g K n I0 J0 R0)) (mQ g K n (some (.int (mb out.1))) out.2 J0 R0) 0 0 (mA g n) := by
  unfold f_X9_join at hf
  refine mStart RX9 hJ hO (by decide) rfl (Nat.le_of_ble_eq_true rfl) ?_
  intro p e s m below meth c ls Qm hQm B hr hlk hw hl
  have hx := B.1.1
  have hb := B.1.2.1
  have hl : lv_has ls 6 [(0, .ref (g.2.1 a0)), (1, .int a1), (2, .int a2)] := hl
  have L47 : ∀ (N : Nat) (v0 : Nat) (v3 : Int32) (v4 : Int32) (v5 : Int32) (I : mI) (z : mI) (H : Heap) (locs : List Loc) (ls : Array Slot), f_X9_join_L47 K v0 v3 v4 J0 R0 N v5 I = some z → mHp g K n s I J0 R0 H locs → lv_has ls 6 [(0, .ref (g.2.1 v0)), (3, .int v3), (4, .int v4), (5, .int v5)] → (∀ (H : Heap) (locs : List Loc) (ls : Array Slot), mHp g K n s z J0 R0 H locs → lv_has ls 6 [] → W p l e ({ frames := 3, cells := 0, slots := 0, locals := 70 } : Room) s m ([.ref (g.2.1 a0), .int a1, .int a2] : List Value).toArray below meth c H locs 0 0 Qm (F0 m 84 ls [])) → W p l e ({ frames := 3, cells := 0, slots := 0, locals := 70 } : Room) s m ([.ref (g.2.1 a0), .int a1, .int a2] : List Value).toArray below meth c H locs 0 0 Qm (F0 m 47 ls []) := by
    intro N
    induction N with
    | zero =>
      intro v0 v3 v4 v5 I z H locs ls hf hw hl kx
      rw [f_X9_join_L47] at hf
      cases hf
    | succ N ih =>
      intro v0 v3 v4 v5 I z H locs ls hf hw hl kx
      rw [f_X9_join_L47] at hf
      refine lv_iload hx hb dX9_join_47 (lv_at hl 3 rfl) ?_
      refine lv_aload_n hx hb dX9_join_49 rfl (lv_at hl 0 rfl) ?_
      obtain ⟨h1, hf⟩ := mChk hf
      obtain ⟨x2, e3, hf⟩ := mBind hf
      refine mgr B hw flX9_7 rfl h1 e3 dX9_join_50 ?_
      refine lv_iconst (v := (1 : Int32)) hx hb dX9_join_53 (by decide) ?_
      obtain ⟨h4, hf⟩ := mChk hf
      refine mld1 B hw h4 dX9_join_54 ?_
      refine lv_icmp_ge (tgt := 84) hx hb dX9_join_55 (by decide) (fun c5 => ?_) (fun c5 => ?_)
      · replace hf := mT1 c5 hf
        obtain rfl := Option.some.inj hf
        exact kx _ _ _ hw (lv_sub hl [] rfl)
      · replace hf := mF1 c5 hf
        refine lv_aload_n hx hb dX9_join_58 rfl (lv_at hl 0 rfl) ?_
        obtain ⟨x6, e7, hf⟩ := mBind hf
        refine mgr B hw flX9_25 rfl h1 e7 dX9_join_59 ?_
        refine lv_iload hx hb dX9_join_62 (lv_at hl 3 rfl) ?_
        obtain ⟨h8, hf⟩ := mChk hf
        refine mld1 B hw h8 dX9_join_64 ?_
        refine lv_iload hx hb dX9_join_65 (lv_at hl 2 rfl) ?_
        refine lv_icmp_ne (tgt := 78) hx hb dX9_join_67 (by decide) (fun c9 => ?_) (fun c9 => ?_)
        · replace hf := mF1 c9 hf
          refine lv_iinc (v := (v5 + (1 : Int32))) (lv' := [(5, .int (v5 + (1 : Int32))), (0, .ref (g.2.1 v0)), (3, .int v3), (4, .int v4)]) hx hb dX9_join_78 hl (k := 3) rfl rfl (by decide) rfl (fun ls hl => ?_)
          refine lv_goto (tgt := 47) hx hb dX9_join_81 (by decide) ?_
          exact ih v0 v3 v4 (v5 + (1 : Int32)) I z _ _ _ hf hw (lv_sub hl [1, 2, 3, 0] rfl) kx
        · replace hf := mT1 c9 hf
          refine lv_aload_n hx hb dX9_join_70 rfl (lv_at hl 0 rfl) ?_
          refine mgr B hw flX9_25 rfl h1 e7 dX9_join_71 ?_
          refine lv_iload hx hb dX9_join_74 (lv_at hl 3 rfl) ?_
          refine lv_iload_n hx hb dX9_join_76 rfl (lv_at hl 1 rfl) ?_
          obtain ⟨I10, e11, hf⟩ := mLet hf
          refine mst1 B hw h8 dX9_join_77 (fun H locs hw => ?_)
          rw [← e11] at hw
          refine lv_iinc (v := (v5 + (1 : Int32))) (lv' := [(5, .int (v5 + (1 : Int32))), (0, .ref (g.2.1 v0)), (3, .int v3), (4, .int v4)]) hx hb dX9_join_78 hl (k := 3) rfl rfl (by decide) rfl (fun ls hl => ?_)
          refine lv_goto (tgt := 47) hx hb dX9_join_81 (by decide) ?_
          exact ih v0 v3 v4 (v5 + (1 : Int32)) I10 z _ _ _ hf hw (lv_sub hl [1, 2, 3, 0] rfl) kx
  refine lv_aload_n hx hb dX9_join_0 rfl (lv_at hl 0 rfl) ?_
  refine lv_iload_n hx hb dX9_join_1 rfl (lv_at hl 1 rfl) ?_
  refine lv_iload_n hx hb dX9_join_2 rfl (lv_at hl 2 rfl) ?_
  obtain ⟨h12, hf⟩ := mChk hf
  obtain ⟨z13, e14, hf⟩ := mBind hf
  refine mcallV (rest := []) (ci := 9) B hw [.int a1, .int a2] clX9_99 rfl h12 (r_X9_unfit l g K n hJ hO a0 a1 a2 I0 J0 R0 z13 e14) ⟨rfl, rfl, Nat.le_of_ble_eq_true rfl, Nat.le_of_ble_eq_true rfl⟩ rfl hl.1 (Nat.le_of_ble_eq_true rfl) ⟨Nat.zero_le _, Nat.zero_le _⟩ dX9_join_3 (fun H locs hw => ?_)
  refine W.eq (g2 := F0 m 6 ls [.int z13]) rfl ?_
  refine lv_if_eq (tgt := 11) hx hb dX9_join_6 (by decide) (fun c15 => ?_) (fun c15 => ?_)
  · replace hf := mT1 c15 hf
    refine lv_aload_n hx hb dX9_join_11 rfl (lv_at hl 0 rfl) ?_
    obtain ⟨x16, e17, hf⟩ := mBind hf
    refine mgr B hw flX9_25 rfl h12 e17 dX9_join_12 ?_
    refine lv_iload_n hx hb dX9_join_15 rfl (lv_at hl 1 rfl) ?_
    obtain ⟨h18, hf⟩ := mChk hf
    refine mld1 B hw h18 dX9_join_16 ?_
    refine lv_aload_n hx hb dX9_join_17 rfl (lv_at hl 0 rfl) ?_
    refine mgr B hw flX9_25 rfl h12 e17 dX9_join_18 ?_
    refine lv_iload_n hx hb dX9_join_21 rfl (lv_at hl 2 rfl) ?_
    obtain ⟨h19, hf⟩ := mChk hf
    refine mld1 B hw h19 dX9_join_22 ?_
    refine mmmin B hl.1 mhX9_76 (Nat.le_of_ble_eq_true rfl) (Nat.le_of_ble_eq_true rfl) (Nat.zero_le _) (Nat.zero_le _) dX9_join_23 ?_
    obtain ⟨y20, e21, hf⟩ := mLet hf
    rw [← e21]
    refine lv_istore_n (lv' := [(3, .int y20), (0, .ref (g.2.1 a0)), (1, .int a1), (2, .int a2)]) hx hb dX9_join_26 rfl hl (by decide) rfl (fun ls hl => ?_)
    refine lv_aload_n hx hb dX9_join_27 rfl (lv_at hl 1 rfl) ?_
    refine mgr B hw flX9_25 rfl h12 e17 dX9_join_28 ?_
    refine lv_iload_n hx hb dX9_join_31 rfl (lv_at hl 2 rfl) ?_
    refine mld1 B hw h18 dX9_join_32 ?_
    refine lv_aload_n hx hb dX9_join_33 rfl (lv_at hl 1 rfl) ?_
    refine mgr B hw flX9_25 rfl h12 e17 dX9_join_34 ?_
    refine lv_iload_n hx hb dX9_join_37 rfl (lv_at hl 3 rfl) ?_
    refine mld1 B hw h19 dX9_join_38 ?_
    refine mmmax B hl.1 mhX9_82 (Nat.le_of_ble_eq_true rfl) (Nat.le_of_ble_eq_true rfl) (Nat.zero_le _) (Nat.zero_le _) dX9_join_39 ?_
    obtain ⟨y22, e23, hf⟩ := mLet hf
    rw [← e23]
    refine lv_istore (lv' := [(4, .int y22), (3, .int y20), (0, .ref (g.2.1 a0)), (1, .int a1), (2, .int a2)]) hx hb dX9_join_42 hl (by decide) rfl (fun ls hl => ?_)
    refine lv_iconst (v := (0 : Int32)) hx hb dX9_join_44 (by decide) ?_
    refine lv_istore (lv' := [(5, .int (0 : Int32)), (4, .int y22), (3, .int y20), (0, .ref (g.2.1 a0)), (1, .int a1), (2, .int a2)]) hx hb dX9_join_45 hl (by decide) rfl (fun ls hl => ?_)
    obtain ⟨z24, e25, hf⟩ := mBind hf
    refine L47 8192 a0 y20 y22 (0 : Int32) I0 z24 _ _ _ e25 hw (lv_sub hl [3, 2, 1, 0] rfl) (fun H locs ls hw hl => ?_)
    refine lv_iconst (v := (1 : Int32)) hx hb dX9_join_84 (by decide) ?_
    rw [hQm, ← Option.some.inj hf]
    exact mrz (v := true) hx hb hr hlk hw dX9_join_85
  · replace hf := mF1 c15 hf
    refine lv_iconst (v := (0 : Int32)) hx hb dX9_join_9 (by decide) ?_
    rw [hQm, ← Option.some.inj hf]
    exact mrz (v := false) hx hb hr hlk hw dX9_join_10
def f_X9_body (K : mK) (a0 : Nat) (a1 : Int32) (I0 : mI) (J0 : mJ) (R0 : mR) : Option Int32 :=
  if K a0 = (0, 9) then
  (f_X9_isFile K a0 (1 : Int32) a1 I0 J0 R0).bind fun z2 =>
  if (mb z2) = 0 then
  some (-1 : Int32)
  else
  (R0 a0 5).bind fun x5 =>
  if mIx K x5 1 a1 then
  some (I0 x5 (a1).toNatClampNeg)
  else none
  else none
set_option maxHeartbeats 4000000 in
set_option maxRecDepth 100000 in
theorem r_X9_body (l : Launch) (g : mG) (K : mK) (n : Nat) (hJ : mInj g n) (hO : mOk K n) (a0 : Nat) (a1 : Int32) (I0 : mI) (J0 : mJ) (R0 : mR) (out : Int32) (hf : f_X9_body K a0 a1 I0 J0 R0 = some out) : Met l yX9_body (mWs yX9_body cX9_body 2 (some .int)) ({ frames := 2, cells := 0, slots := 0, locals := 44 }) (va_Pc [.ref (g.2.1 a0), .int a1] (mB g K n I0 J0 R0)) (mQ g K n (some (.int out)) I0 J0 R0) 0 0 (mA g n) := by
  unfold f_X9_body at hf
  refine mStart RX9 hJ hO (by decide) rfl (Nat.le_of_ble_eq_true rfl) ?_
  intro p e s m below meth c ls Qm hQm B hr hlk hw hl
  have hx := B.1.1
  have hb := B.1.2.1
  have hl : lv_has ls 2 [(0, .ref (g.2.1 a0)), (1, .int a1)] := hl
  refine lv_aload_n hx hb dX9_body_0 rfl (lv_at hl 0 rfl) ?_
  refine lv_iconst (v := (1 : Int32)) hx hb dX9_body_1 (by decide) ?_
  refine lv_iload_n hx hb dX9_body_2 rfl (lv_at hl 1 rfl) ?_
  obtain ⟨h1, hf⟩ := mChk hf
  obtain ⟨z2, e3, hf⟩ := mBind hf
  refine mcallV (rest := []) (ci := 9) B hw [.int (1 : Int32), .int a1] clX9_68 rfl h1 (r_X9_isFile l g K n hJ hO a0 (1 : Int32) a1 I0 J0 R0 z2 e3) ⟨rfl, rfl, Nat.le_of_ble_eq_true rfl, Nat.le_of_ble_eq_true rfl⟩ rfl hl.1 (Nat.le_of_ble_eq_true rfl) ⟨Nat.zero_le _, Nat.zero_le _⟩ dX9_body_3 (fun H locs hw => ?_)
  refine W.eq (g2 := F0 m 6 ls [.int (mb z2)]) rfl ?_
  refine lv_if_eq (tgt := 18) hx hb dX9_body_6 (by decide) (fun c4 => ?_) (fun c4 => ?_)
  · replace hf := mT1 c4 hf
    refine lv_iconst (v := (-1 : Int32)) hx hb dX9_body_18 (by decide) ?_
    rw [hQm, ← Option.some.inj hf]
    exact mri hx hb hr hlk hw dX9_body_19
  · replace hf := mF1 c4 hf
    refine lv_aload_n hx hb dX9_body_9 rfl (lv_at hl 0 rfl) ?_
    obtain ⟨x5, e6, hf⟩ := mBind hf
    refine mgr B hw flX9_25 rfl h1 e6 dX9_body_10 ?_
    refine lv_iload_n hx hb dX9_body_13 rfl (lv_at hl 1 rfl) ?_
    obtain ⟨h7, hf⟩ := mChk hf
    refine mld1 B hw h7 dX9_body_14 ?_
    refine lv_goto (tgt := 19) hx hb dX9_body_15 (by decide) ?_
    rw [hQm, ← Option.some.inj hf]
    exact mri hx hb hr hlk hw dX9_body_19
def f_X9_sizeOf_L4 (K : mK) (v0 : Nat) (v1 : Int32) (I0 : mI) (J0 : mJ) (R0 : mR) : Nat → Int32 → Int32 → Option Int32
  | 0, _, _ => none
  | N + 1, v2, v3 =>
  if K v0 = (0, 9) then
  (R0 v0 0).bind fun x2 =>
  if mIx K x2 1 (1 : Int32) then
  if (I0 x2 ((1 : Int32)).toNatClampNeg) ≤ v3 then
  some v2
  else
  (R0 v0 5).bind fun x6 =>
  if mIx K x6 1 v3 then
  if (I0 x6 (v3).toNatClampNeg) = v1 then
  (f_X9_one K true I0 J0 R0).bind fun z12 =>
  f_X9_sizeOf_L4 K v0 v1 I0 J0 R0 N (v2 + z12) (v3 + (1 : Int32))
  else
  (f_X9_one K false I0 J0 R0).bind fun z10 =>
  f_X9_sizeOf_L4 K v0 v1 I0 J0 R0 N (v2 + z10) (v3 + (1 : Int32))
  else none
  else none
  else none
def f_X9_sizeOf (K : mK) (a0 : Nat) (a1 : Int32) (I0 : mI) (J0 : mJ) (R0 : mR) : Option Int32 :=
  (f_X9_sizeOf_L4 K a0 a1 I0 J0 R0 8192 (0 : Int32) (0 : Int32)).bind fun z14 =>
  some z14
set_option maxHeartbeats 4000000 in
set_option maxRecDepth 100000 in
theorem r_X9_sizeOf (l : Launch) (g : mG) (K : mK) (n : Nat) (hJ : mInj g n) (hO : mOk K n) (a0 : Nat) (a1 : Int32) (I0 : mI) (J0 : mJ) (R0 : mR) (out : Int32) (hf : f_X9_sizeOf K a0 a1 I0 J0 R0 = some out) : Met l yX9_sizeOf (mWs yX9_sizeOf cX9_sizeOf 4 (some .int)) ({ frames := 1, cells := 0, slots := 0, locals := 20 }) (va_Pc [.ref (g.2.1 a0), .int a1] (mB g K n I0 J0 R0)) (mQ g K n (some (.int out)) I0 J0 R0) 0 0 (mA g n) := by
  unfold f_X9_sizeOf at hf
  refine mStart RX9 hJ hO (by decide) rfl (Nat.le_of_ble_eq_true rfl) ?_
  intro p e s m below meth c ls Qm hQm B hr hlk hw hl
  have hx := B.1.1
  have hb := B.1.2.1
  have hl : lv_has ls 4 [(0, .ref (g.2.1 a0)), (1, .int a1)] := hl
  have L4 : ∀ (N : Nat) (v0 : Nat) (v1 : Int32) (v2 : Int32) (v3 : Int32) (z : Int32) (H : Heap) (locs : List Loc) (ls : Array Slot), f_X9_sizeOf_L4 K v0 v1 I0 J0 R0 N v2 v3 = some z → mHp g K n s I0 J0 R0 H locs → lv_has ls 4 [(0, .ref (g.2.1 v0)), (1, .int v1), (2, .int v2), (3, .int v3)] → (∀ (H : Heap) (locs : List Loc) (ls : Array Slot), mHp g K n s I0 J0 R0 H locs → lv_has ls 4 [(2, .int z)] → W p l e ({ frames := 1, cells := 0, slots := 0, locals := 20 } : Room) s m ([.ref (g.2.1 a0), .int a1] : List Value).toArray below meth c H locs 0 0 Qm (F0 m 41 ls [])) → W p l e ({ frames := 1, cells := 0, slots := 0, locals := 20 } : Room) s m ([.ref (g.2.1 a0), .int a1] : List Value).toArray below meth c H locs 0 0 Qm (F0 m 4 ls []) := by
    intro N
    induction N with
    | zero =>
      intro v0 v1 v2 v3  z H locs ls hf hw hl kx
      rw [f_X9_sizeOf_L4] at hf
      cases hf
    | succ N ih =>
      intro v0 v1 v2 v3  z H locs ls hf hw hl kx
      rw [f_X9_sizeOf_L4] at hf
      refine lv_iload_n hx hb dX9_sizeOf_4 rfl (lv_at hl 3 rfl) ?_
      refine lv_aload_n hx hb dX9_sizeOf_5 rfl (lv_at hl 0 rfl) ?_
      obtain ⟨h1, hf⟩ := mChk hf
      obtain ⟨x2, e3, hf⟩ := mBind hf
      refine mgr B hw flX9_7 rfl h1 e3 dX9_sizeOf_6 ?_
      refine lv_iconst (v := (1 : Int32)) hx hb dX9_sizeOf_9 (by decide) ?_
      obtain ⟨h4, hf⟩ := mChk hf
      refine mld1 B hw h4 dX9_sizeOf_10 ?_
      refine lv_icmp_ge (tgt := 41) hx hb dX9_sizeOf_11 (by decide) (fun c5 => ?_) (fun c5 => ?_)
      · replace hf := mT1 c5 hf
        obtain rfl := Option.some.inj hf
        exact kx _ _ _ hw (lv_sub hl [2] rfl)
      · replace hf := mF1 c5 hf
        refine lv_iload_n hx hb dX9_sizeOf_14 rfl (lv_at hl 2 rfl) ?_
        refine lv_aload_n hx hb dX9_sizeOf_15 rfl (lv_at hl 0 rfl) ?_
        obtain ⟨x6, e7, hf⟩ := mBind hf
        refine mgr B hw flX9_25 rfl h1 e7 dX9_sizeOf_16 ?_
        refine lv_iload_n hx hb dX9_sizeOf_19 rfl (lv_at hl 3 rfl) ?_
        obtain ⟨h8, hf⟩ := mChk hf
        refine mld1 B hw h8 dX9_sizeOf_20 ?_
        refine lv_iload_n hx hb dX9_sizeOf_21 rfl (lv_at hl 1 rfl) ?_
        refine lv_icmp_ne (tgt := 29) hx hb dX9_sizeOf_22 (by decide) (fun c9 => ?_) (fun c9 => ?_)
        · replace hf := mF1 c9 hf
          refine lv_iconst (v := (0 : Int32)) hx hb dX9_sizeOf_29 (by decide) ?_
          obtain ⟨z10, e11, hf⟩ := mBind hf
          refine mcallS (rest := [.int v2]) B hw [.int (mb false)] clX9_102 (r_X9_one l g K n hJ hO false I0 J0 R0 z10 e11) ⟨rfl, rfl, Nat.le_of_ble_eq_true rfl, Nat.le_of_ble_eq_true rfl⟩ rfl hl.1 (Nat.le_of_ble_eq_true rfl) ⟨Nat.zero_le _, Nat.zero_le _⟩ dX9_sizeOf_30 (fun H locs hw => ?_)
          refine W.eq (g2 := F0 m 33 ls [.int z10, .int v2]) rfl ?_
          refine lv_iadd hx hb dX9_sizeOf_33 ?_
          refine lv_istore_n (lv' := [(2, .int (v2 + z10)), (0, .ref (g.2.1 v0)), (1, .int v1), (3, .int v3)]) hx hb dX9_sizeOf_34 rfl hl (by decide) rfl (fun ls hl => ?_)
          refine lv_iinc (v := (v3 + (1 : Int32))) (lv' := [(3, .int (v3 + (1 : Int32))), (2, .int (v2 + z10)), (0, .ref (g.2.1 v0)), (1, .int v1)]) hx hb dX9_sizeOf_35 hl (k := 3) rfl rfl (by decide) rfl (fun ls hl => ?_)
          refine lv_goto (tgt := 4) hx hb dX9_sizeOf_38 (by decide) ?_
          exact ih v0 v1 (v2 + z10) (v3 + (1 : Int32)) z _ _ _ hf hw (lv_sub hl [2, 3, 1, 0] rfl) kx
        · replace hf := mT1 c9 hf
          refine lv_iconst (v := (1 : Int32)) hx hb dX9_sizeOf_25 (by decide) ?_
          refine lv_goto (tgt := 30) hx hb dX9_sizeOf_26 (by decide) ?_
          obtain ⟨z12, e13, hf⟩ := mBind hf
          refine mcallS (rest := [.int v2]) B hw [.int (mb true)] clX9_102 (r_X9_one l g K n hJ hO true I0 J0 R0 z12 e13) ⟨rfl, rfl, Nat.le_of_ble_eq_true rfl, Nat.le_of_ble_eq_true rfl⟩ rfl hl.1 (Nat.le_of_ble_eq_true rfl) ⟨Nat.zero_le _, Nat.zero_le _⟩ dX9_sizeOf_30 (fun H locs hw => ?_)
          refine W.eq (g2 := F0 m 33 ls [.int z12, .int v2]) rfl ?_
          refine lv_iadd hx hb dX9_sizeOf_33 ?_
          refine lv_istore_n (lv' := [(2, .int (v2 + z12)), (0, .ref (g.2.1 v0)), (1, .int v1), (3, .int v3)]) hx hb dX9_sizeOf_34 rfl hl (by decide) rfl (fun ls hl => ?_)
          refine lv_iinc (v := (v3 + (1 : Int32))) (lv' := [(3, .int (v3 + (1 : Int32))), (2, .int (v2 + z12)), (0, .ref (g.2.1 v0)), (1, .int v1)]) hx hb dX9_sizeOf_35 hl (k := 3) rfl rfl (by decide) rfl (fun ls hl => ?_)
          refine lv_goto (tgt := 4) hx hb dX9_sizeOf_38 (by decide) ?_
          exact ih v0 v1 (v2 + z12) (v3 + (1 : Int32)) z _ _ _ hf hw (lv_sub hl [2, 3, 1, 0] rfl) kx
  refine lv_iconst (v := (0 : Int32)) hx hb dX9_sizeOf_0 (by decide) ?_
  refine lv_istore_n (lv' := [(2, .int (0 : Int32)), (0, .ref (g.2.1 a0)), (1, .int a1)]) hx hb dX9_sizeOf_1 rfl hl (by decide) rfl (fun ls hl => ?_)
  refine lv_iconst (v := (0 : Int32)) hx hb dX9_sizeOf_2 (by decide) ?_
  refine lv_istore_n (lv' := [(3, .int (0 : Int32)), (2, .int (0 : Int32)), (0, .ref (g.2.1 a0)), (1, .int a1)]) hx hb dX9_sizeOf_3 rfl hl (by decide) rfl (fun ls hl => ?_)
  obtain ⟨z14, e15, hf⟩ := mBind hf
  refine L4 8192 a0 a1 (0 : Int32) (0 : Int32) z14 _ _ _ e15 hw (lv_sub hl [2, 3, 1, 0] rfl) (fun H locs ls hw hl => ?_)
  refine lv_iload_n hx hb dX9_sizeOf_41 rfl (lv_at hl 0 rfl) ?_
  rw [hQm, ← Option.some.inj hf]
  exact mri hx hb hr hlk hw dX9_sizeOf_42
def f_X9_told (K : mK) (a0 : Nat) (a1 : Int32) (a2 : Int32) (I0 : mI) (J0 : mJ) (R0 : mR) : Option Int32 :=
  if K a0 = (0, 9) then
  (f_X9_isFile K a0 (1 : Int32) a1 I0 J0 R0).bind fun z2 =>
  if (mb z2) = 0 then
  some (-1 : Int32)
  else
  (R0 a0 5).bind fun x5 =>
  if mIx K x5 1 a1 then
  (f_X9_isIn K a2 (10 : Int32) (17 : Int32) I0 J0 R0).bind fun z8 =>
  if (mb z8) = 0 then
  (f_X9_isIn K a2 (20 : Int32) (23 : Int32) I0 J0 R0).bind fun z11 =>
  if (mb z11) = 0 then
  (f_X9_isIn K a2 (30 : Int32) (32 : Int32) I0 J0 R0).bind fun z14 =>
  if (mb z14) = 0 then
  if a2 = (0 : Int32) then
  (f_X9_ofBody K a0 (I0 x5 (a1).toNatClampNeg) (0 : Int32) I0 J0 R0).bind fun z17 =>
  some z17
  else if a2 = (1 : Int32) then
  (f_X9_ageOf K a0 (I0 x5 (a1).toNatClampNeg) false I0 J0 R0).bind fun z19 =>
  some z19
  else if a2 = (2 : Int32) then
  (f_X9_ageOf K a0 (I0 x5 (a1).toNatClampNeg) true I0 J0 R0).bind fun z21 =>
  some z21
  else if a2 = (3 : Int32) then
  (f_X9_piecesOf K a0 (I0 x5 (a1).toNatClampNeg) I0 J0 R0).bind fun z23 =>
  some z23
  else if a2 = (4 : Int32) then
  (f_X9_sizeOf K a0 (I0 x5 (a1).toNatClampNeg) I0 J0 R0).bind fun z25 =>
  some z25
  else some (-1 : Int32)
  else
  (f_X9_ofBody K a0 (I0 x5 (a1).toNatClampNeg) (((13 : Int32) + a2) - (30 : Int32)) I0 J0 R0).bind fun z27 =>
  some z27
  else
  (f_X9_ofBody K a0 (I0 x5 (a1).toNatClampNeg) (((9 : Int32) + a2) - (20 : Int32)) I0 J0 R0).bind fun z29 =>
  some z29
  else
  (f_X9_ofBody K a0 (I0 x5 (a1).toNatClampNeg) (((1 : Int32) + a2) - (10 : Int32)) I0 J0 R0).bind fun z31 =>
  some z31
  else none
  else none
set_option maxHeartbeats 4000000 in
set_option maxRecDepth 100000 in
theorem r_X9_told (l : Launch) (g : mG) (K : mK) (n : Nat) (hJ : mInj g n) (hO : mOk K n) (a0 : Nat) (a1 : Int32) (a2 : Int32) (I0 : mI) (J0 : mJ) (R0 : mR) (out : Int32) (hf : f_X9_told K a0 a1 a2 I0 J0 R0 = some out) : Met l yX9_told (mWs yX9_told cX9_told 4 (some .int)) ({ frames := 2, cells := 0, slots := 0, locals := 45 }) (va_Pc [.ref (g.2.1 a0), .int a1, .int a2] (mB g K n I0 J0 R0)) (mQ g K n (some (.int out)) I0 J0 R0) 0 0 (mA g n) := by
  unfold f_X9_told at hf
  refine mStart RX9 hJ hO (by decide) rfl (Nat.le_of_ble_eq_true rfl) ?_
  intro p e s m below meth c ls Qm hQm B hr hlk hw hl
  have hx := B.1.1
  have hb := B.1.2.1
  have hl : lv_has ls 4 [(0, .ref (g.2.1 a0)), (1, .int a1), (2, .int a2)] := hl
  refine lv_aload_n hx hb dX9_told_0 rfl (lv_at hl 0 rfl) ?_
  refine lv_iconst (v := (1 : Int32)) hx hb dX9_told_1 (by decide) ?_
  refine lv_iload_n hx hb dX9_told_2 rfl (lv_at hl 1 rfl) ?_
  obtain ⟨h1, hf⟩ := mChk hf
  obtain ⟨z2, e3, hf⟩ := mBind hf
  refine mcallV (rest := []) (ci := 9) B hw [.int (1 : Int32), .int a1] clX9_68 rfl h1 (r_X9_isFile l g K n hJ hO a0 (1 : Int32) a1 I0 J0 R0 z2 e3) ⟨rfl, rfl, Nat.le_of_ble_eq_true rfl, Nat.le_of_ble_eq_true rfl⟩ rfl hl.1 (Nat.le_of_ble_eq_true rfl) ⟨Nat.zero_le _, Nat.zero_le _⟩ dX9_told_3 (fun H locs hw => ?_)
  refine W.eq (g2 := F0 m 6 ls [.int (mb z2)]) rfl ?_
  refine lv_if_ne (tgt := 11) hx hb dX9_told_6 (by decide) (fun c4 => ?_) (fun c4 => ?_)
  · replace hf := mF1 c4 hf
    refine lv_aload_n hx hb dX9_told_11 rfl (lv_at hl 0 rfl) ?_
    obtain ⟨x5, e6, hf⟩ := mBind hf
    refine mgr B hw flX9_25 rfl h1 e6 dX9_told_12 ?_
    refine lv_iload_n hx hb dX9_told_15 rfl (lv_at hl 1 rfl) ?_
    obtain ⟨h7, hf⟩ := mChk hf
    refine mld1 B hw h7 dX9_told_16 ?_
    refine lv_istore_n (lv' := [(3, .int (I0 x5 (a1).toNatClampNeg)), (0, .ref (g.2.1 a0)), (1, .int a1), (2, .int a2)]) hx hb dX9_told_17 rfl hl (by decide) rfl (fun ls hl => ?_)
    refine lv_iload_n hx hb dX9_told_18 rfl (lv_at hl 3 rfl) ?_
    refine lv_bipush (v := (10 : Int32)) hx hb dX9_told_19 (by decide) ?_
    refine lv_bipush (v := (17 : Int32)) hx hb dX9_told_21 (by decide) ?_
    obtain ⟨z8, e9, hf⟩ := mBind hf
    refine mcallS (rest := []) B hw [.int a2, .int (10 : Int32), .int (17 : Int32)] clX9_64 (r_X9_isIn l g K n hJ hO a2 (10 : Int32) (17 : Int32) I0 J0 R0 z8 e9) ⟨rfl, rfl, Nat.le_of_ble_eq_true rfl, Nat.le_of_ble_eq_true rfl⟩ rfl hl.1 (Nat.le_of_ble_eq_true rfl) ⟨Nat.zero_le _, Nat.zero_le _⟩ dX9_told_23 (fun H locs hw => ?_)
    refine W.eq (g2 := F0 m 26 ls [.int (mb z8)]) rfl ?_
    refine lv_if_eq (tgt := 41) hx hb dX9_told_26 (by decide) (fun c10 => ?_) (fun c10 => ?_)
    · replace hf := mT1 c10 hf
      refine lv_iload_n hx hb dX9_told_41 rfl (lv_at hl 3 rfl) ?_
      refine lv_bipush (v := (20 : Int32)) hx hb dX9_told_42 (by decide) ?_
      refine lv_bipush (v := (23 : Int32)) hx hb dX9_told_44 (by decide) ?_
      obtain ⟨z11, e12, hf⟩ := mBind hf
      refine mcallS (rest := []) B hw [.int a2, .int (20 : Int32), .int (23 : Int32)] clX9_64 (r_X9_isIn l g K n hJ hO a2 (20 : Int32) (23 : Int32) I0 J0 R0 z11 e12) ⟨rfl, rfl, Nat.le_of_ble_eq_true rfl, Nat.le_of_ble_eq_true rfl⟩ rfl hl.1 (Nat.le_of_ble_eq_true rfl) ⟨Nat.zero_le _, Nat.zero_le _⟩ dX9_told_46 (fun H locs hw => ?_)
      refine W.eq (g2 := F0 m 49 ls [.int (mb z11)]) rfl ?_
      refine lv_if_eq (tgt := 65) hx hb dX9_told_49 (by decide) (fun c13 => ?_) (fun c13 => ?_)
      · replace hf := mT1 c13 hf
        refine lv_iload_n hx hb dX9_told_65 rfl (lv_at hl 3 rfl) ?_
        refine lv_bipush (v := (30 : Int32)) hx hb dX9_told_66 (by decide) ?_
        refine lv_bipush (v := (32 : Int32)) hx hb dX9_told_68 (by decide) ?_
        obtain ⟨z14, e15, hf⟩ := mBind hf
        refine mcallS (rest := []) B hw [.int a2, .int (30 : Int32), .int (32 : Int32)] clX9_64 (r_X9_isIn l g K n hJ hO a2 (30 : Int32) (32 : Int32) I0 J0 R0 z14 e15) ⟨rfl, rfl, Nat.le_of_ble_eq_true rfl, Nat.le_of_ble_eq_true rfl⟩ rfl hl.1 (Nat.le_of_ble_eq_true rfl) ⟨Nat.zero_le _, Nat.zero_le _⟩ dX9_told_70 (fun H locs hw => ?_)
        refine W.eq (g2 := F0 m 73 ls [.int (mb z14)]) rfl ?_
        refine lv_if_eq (tgt := 89) hx hb dX9_told_73 (by decide) (fun c16 => ?_) (fun c16 => ?_)
        · replace hf := mT1 c16 hf
          refine lv_iload_n hx hb dX9_told_89 rfl (lv_at hl 3 rfl) ?_
          by_cases k0 : a2 = (0 : Int32)
          · replace hf := mT1 k0 hf
            refine lv_tableIn (off := 34) (tgt := 124) hx hb dX9_told_90 (by rw [k0]; decide) (by rw [k0]; decide) (by rw [k0]; rfl) (by decide) ?_
            refine lv_aload_n hx hb dX9_told_124 rfl (lv_at hl 1 rfl) ?_
            refine lv_iload_n hx hb dX9_told_125 rfl (lv_at hl 0 rfl) ?_
            refine lv_iconst (v := (0 : Int32)) hx hb dX9_told_126 (by decide) ?_
            obtain ⟨z17, e18, hf⟩ := mBind hf
            refine mcallV (rest := []) (ci := 9) B hw [.int (I0 x5 (a1).toNatClampNeg), .int (0 : Int32)] clX9_89 rfl h1 (r_X9_ofBody l g K n hJ hO a0 (I0 x5 (a1).toNatClampNeg) (0 : Int32) I0 J0 R0 z17 e18) ⟨rfl, rfl, Nat.le_of_ble_eq_true rfl, Nat.le_of_ble_eq_true rfl⟩ rfl hl.1 (Nat.le_of_ble_eq_true rfl) ⟨Nat.zero_le _, Nat.zero_le _⟩ dX9_told_127 (fun H locs hw => ?_)
            refine W.eq (g2 := F0 m 130 ls [.int z17]) rfl ?_
            rw [hQm, ← Option.some.inj hf]
            exact mri hx hb hr hlk hw dX9_told_130
          replace hf := mF1 k0 hf
          by_cases k1 : a2 = (1 : Int32)
          · replace hf := mT1 k1 hf
            refine lv_tableIn (off := 41) (tgt := 131) hx hb dX9_told_90 (by rw [k1]; decide) (by rw [k1]; decide) (by rw [k1]; rfl) (by decide) ?_
            refine lv_aload_n hx hb dX9_told_131 rfl (lv_at hl 1 rfl) ?_
            refine lv_iload_n hx hb dX9_told_132 rfl (lv_at hl 0 rfl) ?_
            refine lv_iconst (v := (0 : Int32)) hx hb dX9_told_133 (by decide) ?_
            obtain ⟨z19, e20, hf⟩ := mBind hf
            refine mcallV (rest := []) (ci := 9) B hw [.int (I0 x5 (a1).toNatClampNeg), .int (mb false)] clX9_95 rfl h1 (r_X9_ageOf l g K n hJ hO a0 (I0 x5 (a1).toNatClampNeg) false I0 J0 R0 z19 e20) ⟨rfl, rfl, Nat.le_of_ble_eq_true rfl, Nat.le_of_ble_eq_true rfl⟩ rfl hl.1 (Nat.le_of_ble_eq_true rfl) ⟨Nat.zero_le _, Nat.zero_le _⟩ dX9_told_134 (fun H locs hw => ?_)
            refine W.eq (g2 := F0 m 137 ls [.int z19]) rfl ?_
            rw [hQm, ← Option.some.inj hf]
            exact mri hx hb hr hlk hw dX9_told_137
          replace hf := mF1 k1 hf
          by_cases k2 : a2 = (2 : Int32)
          · replace hf := mT1 k2 hf
            refine lv_tableIn (off := 48) (tgt := 138) hx hb dX9_told_90 (by rw [k2]; decide) (by rw [k2]; decide) (by rw [k2]; rfl) (by decide) ?_
            refine lv_aload_n hx hb dX9_told_138 rfl (lv_at hl 1 rfl) ?_
            refine lv_iload_n hx hb dX9_told_139 rfl (lv_at hl 0 rfl) ?_
            refine lv_iconst (v := (1 : Int32)) hx hb dX9_told_140 (by decide) ?_
            obtain ⟨z21, e22, hf⟩ := mBind hf
            refine mcallV (rest := []) (ci := 9) B hw [.int (I0 x5 (a1).toNatClampNeg), .int (mb true)] clX9_95 rfl h1 (r_X9_ageOf l g K n hJ hO a0 (I0 x5 (a1).toNatClampNeg) true I0 J0 R0 z21 e22) ⟨rfl, rfl, Nat.le_of_ble_eq_true rfl, Nat.le_of_ble_eq_true rfl⟩ rfl hl.1 (Nat.le_of_ble_eq_true rfl) ⟨Nat.zero_le _, Nat.zero_le _⟩ dX9_told_141 (fun H locs hw => ?_)
            refine W.eq (g2 := F0 m 144 ls [.int z21]) rfl ?_
            rw [hQm, ← Option.some.inj hf]
            exact mri hx hb hr hlk hw dX9_told_144
          replace hf := mF1 k2 hf
          by_cases k3 : a2 = (3 : Int32)
          · replace hf := mT1 k3 hf
            refine lv_tableIn (off := 55) (tgt := 145) hx hb dX9_told_90 (by rw [k3]; decide) (by rw [k3]; decide) (by rw [k3]; rfl) (by decide) ?_
            refine lv_aload_n hx hb dX9_told_145 rfl (lv_at hl 1 rfl) ?_
            refine lv_iload_n hx hb dX9_told_146 rfl (lv_at hl 0 rfl) ?_
            obtain ⟨z23, e24, hf⟩ := mBind hf
            refine mcallV (rest := []) (ci := 9) B hw [.int (I0 x5 (a1).toNatClampNeg)] clX9_85 rfl h1 (r_X9_piecesOf l g K n hJ hO a0 (I0 x5 (a1).toNatClampNeg) I0 J0 R0 z23 e24) ⟨rfl, rfl, Nat.le_of_ble_eq_true rfl, Nat.le_of_ble_eq_true rfl⟩ rfl hl.1 (Nat.le_of_ble_eq_true rfl) ⟨Nat.zero_le _, Nat.zero_le _⟩ dX9_told_147 (fun H locs hw => ?_)
            refine W.eq (g2 := F0 m 150 ls [.int z23]) rfl ?_
            rw [hQm, ← Option.some.inj hf]
            exact mri hx hb hr hlk hw dX9_told_150
          replace hf := mF1 k3 hf
          by_cases k4 : a2 = (4 : Int32)
          · replace hf := mT1 k4 hf
            refine lv_tableIn (off := 61) (tgt := 151) hx hb dX9_told_90 (by rw [k4]; decide) (by rw [k4]; decide) (by rw [k4]; rfl) (by decide) ?_
            refine lv_aload_n hx hb dX9_told_151 rfl (lv_at hl 1 rfl) ?_
            refine lv_iload_n hx hb dX9_told_152 rfl (lv_at hl 0 rfl) ?_
            obtain ⟨z25, e26, hf⟩ := mBind hf
            refine mcallV (rest := []) (ci := 9) B hw [.int (I0 x5 (a1).toNatClampNeg)] clX9_106 rfl h1 (r_X9_sizeOf l g K n hJ hO a0 (I0 x5 (a1).toNatClampNeg) I0 J0 R0 z25 e26) ⟨rfl, rfl, Nat.le_of_ble_eq_true rfl, Nat.le_of_ble_eq_true rfl⟩ rfl hl.1 (Nat.le_of_ble_eq_true rfl) ⟨Nat.zero_le _, Nat.zero_le _⟩ dX9_told_153 (fun H locs hw => ?_)
            refine W.eq (g2 := F0 m 156 ls [.int z25]) rfl ?_
            rw [hQm, ← Option.some.inj hf]
            exact mri hx hb hr hlk hw dX9_told_156
          replace hf := mF1 k4 hf
          refine lv_tableOut (tgt := 157) hx hb dX9_told_90 (mSwOut 4 (by decide) (fun k hk => by
            match k, hk with
            | 0, _ => exact k0
            | 1, _ => exact k1
            | 2, _ => exact k2
            | 3, _ => exact k3
            | 4, _ => exact k4
            | k + 5, h => exact absurd h (by omega))) (by decide) ?_
          refine lv_iconst (v := (-1 : Int32)) hx hb dX9_told_157 (by decide) ?_
          rw [hQm, ← Option.some.inj hf]
          exact mri hx hb hr hlk hw dX9_told_158
        · replace hf := mF1 c16 hf
          refine lv_aload_n hx hb dX9_told_76 rfl (lv_at hl 1 rfl) ?_
          refine lv_iload_n hx hb dX9_told_77 rfl (lv_at hl 0 rfl) ?_
          refine lv_bipush (v := (13 : Int32)) hx hb dX9_told_78 (by decide) ?_
          refine lv_iload_n hx hb dX9_told_80 rfl (lv_at hl 3 rfl) ?_
          refine lv_iadd hx hb dX9_told_81 ?_
          refine lv_bipush (v := (30 : Int32)) hx hb dX9_told_82 (by decide) ?_
          refine lv_isub hx hb dX9_told_84 ?_
          obtain ⟨z27, e28, hf⟩ := mBind hf
          refine mcallV (rest := []) (ci := 9) B hw [.int (I0 x5 (a1).toNatClampNeg), .int (((13 : Int32) + a2) - (30 : Int32))] clX9_89 rfl h1 (r_X9_ofBody l g K n hJ hO a0 (I0 x5 (a1).toNatClampNeg) (((13 : Int32) + a2) - (30 : Int32)) I0 J0 R0 z27 e28) ⟨rfl, rfl, Nat.le_of_ble_eq_true rfl, Nat.le_of_ble_eq_true rfl⟩ rfl hl.1 (Nat.le_of_ble_eq_true rfl) ⟨Nat.zero_le _, Nat.zero_le _⟩ dX9_told_85 (fun H locs hw => ?_)
          refine W.eq (g2 := F0 m 88 ls [.int z27]) rfl ?_
          rw [hQm, ← Option.some.inj hf]
          exact mri hx hb hr hlk hw dX9_told_88
      · replace hf := mF1 c13 hf
        refine lv_aload_n hx hb dX9_told_52 rfl (lv_at hl 1 rfl) ?_
        refine lv_iload_n hx hb dX9_told_53 rfl (lv_at hl 0 rfl) ?_
        refine lv_bipush (v := (9 : Int32)) hx hb dX9_told_54 (by decide) ?_
        refine lv_iload_n hx hb dX9_told_56 rfl (lv_at hl 3 rfl) ?_
        refine lv_iadd hx hb dX9_told_57 ?_
        refine lv_bipush (v := (20 : Int32)) hx hb dX9_told_58 (by decide) ?_
        refine lv_isub hx hb dX9_told_60 ?_
        obtain ⟨z29, e30, hf⟩ := mBind hf
        refine mcallV (rest := []) (ci := 9) B hw [.int (I0 x5 (a1).toNatClampNeg), .int (((9 : Int32) + a2) - (20 : Int32))] clX9_89 rfl h1 (r_X9_ofBody l g K n hJ hO a0 (I0 x5 (a1).toNatClampNeg) (((9 : Int32) + a2) - (20 : Int32)) I0 J0 R0 z29 e30) ⟨rfl, rfl, Nat.le_of_ble_eq_true rfl, Nat.le_of_ble_eq_true rfl⟩ rfl hl.1 (Nat.le_of_ble_eq_true rfl) ⟨Nat.zero_le _, Nat.zero_le _⟩ dX9_told_61 (fun H locs hw => ?_)
        refine W.eq (g2 := F0 m 64 ls [.int z29]) rfl ?_
        rw [hQm, ← Option.some.inj hf]
        exact mri hx hb hr hlk hw dX9_told_64
    · replace hf := mF1 c10 hf
      refine lv_aload_n hx hb dX9_told_29 rfl (lv_at hl 1 rfl) ?_
      refine lv_iload_n hx hb dX9_told_30 rfl (lv_at hl 0 rfl) ?_
      refine lv_iconst (v := (1 : Int32)) hx hb dX9_told_31 (by decide) ?_
      refine lv_iload_n hx hb dX9_told_32 rfl (lv_at hl 3 rfl) ?_
      refine lv_iadd hx hb dX9_told_33 ?_
      refine lv_bipush (v := (10 : Int32)) hx hb dX9_told_34 (by decide) ?_
      refine lv_isub hx hb dX9_told_36 ?_
      obtain ⟨z31, e32, hf⟩ := mBind hf
      refine mcallV (rest := []) (ci := 9) B hw [.int (I0 x5 (a1).toNatClampNeg), .int (((1 : Int32) + a2) - (10 : Int32))] clX9_89 rfl h1 (r_X9_ofBody l g K n hJ hO a0 (I0 x5 (a1).toNatClampNeg) (((1 : Int32) + a2) - (10 : Int32)) I0 J0 R0 z31 e32) ⟨rfl, rfl, Nat.le_of_ble_eq_true rfl, Nat.le_of_ble_eq_true rfl⟩ rfl hl.1 (Nat.le_of_ble_eq_true rfl) ⟨Nat.zero_le _, Nat.zero_le _⟩ dX9_told_37 (fun H locs hw => ?_)
      refine W.eq (g2 := F0 m 40 ls [.int z31]) rfl ?_
      rw [hQm, ← Option.some.inj hf]
      exact mri hx hb hr hlk hw dX9_told_40
  · replace hf := mT1 c4 hf
    refine lv_iconst (v := (-1 : Int32)) hx hb dX9_told_9 (by decide) ?_
    rw [hQm, ← Option.some.inj hf]
    exact mri hx hb hr hlk hw dX9_told_10
def f_X9_ofMissing (K : mK) (a0 : Nat) (a1 : Int32) (a2 : Int32) (I0 : mI) (J0 : mJ) (R0 : mR) : Option Int32 :=
  if K a0 = (0, 9) then
  (R0 a0 1).bind fun x2 =>
  if mIx K x2 1 (((19 : Int32) * a1) + a2) then
  some (I0 x2 ((((19 : Int32) * a1) + a2)).toNatClampNeg)
  else none
  else none
set_option maxHeartbeats 4000000 in
set_option maxRecDepth 100000 in
theorem r_X9_ofMissing (l : Launch) (g : mG) (K : mK) (n : Nat) (hJ : mInj g n) (hO : mOk K n) (a0 : Nat) (a1 : Int32) (a2 : Int32) (I0 : mI) (J0 : mJ) (R0 : mR) (out : Int32) (hf : f_X9_ofMissing K a0 a1 a2 I0 J0 R0 = some out) : Met l yX9_ofMissing (mWs yX9_ofMissing cX9_ofMissing 3 (some .int)) ({ frames := 0, cells := 0, slots := 0, locals := 0 }) (va_Pc [.ref (g.2.1 a0), .int a1, .int a2] (mB g K n I0 J0 R0)) (mQ g K n (some (.int out)) I0 J0 R0) 0 0 (mA g n) := by
  unfold f_X9_ofMissing at hf
  refine mStart RX9 hJ hO (by decide) rfl (Nat.le_of_ble_eq_true rfl) ?_
  intro p e s m below meth c ls Qm hQm B hr hlk hw hl
  have hx := B.1.1
  have hb := B.1.2.1
  have hl : lv_has ls 3 [(0, .ref (g.2.1 a0)), (1, .int a1), (2, .int a2)] := hl
  refine lv_aload_n hx hb dX9_ofMissing_0 rfl (lv_at hl 0 rfl) ?_
  obtain ⟨h1, hf⟩ := mChk hf
  obtain ⟨x2, e3, hf⟩ := mBind hf
  refine mgr B hw flX9_13 rfl h1 e3 dX9_ofMissing_1 ?_
  refine lv_bipush (v := (19 : Int32)) hx hb dX9_ofMissing_4 (by decide) ?_
  refine lv_iload_n hx hb dX9_ofMissing_6 rfl (lv_at hl 1 rfl) ?_
  refine lv_imul hx hb dX9_ofMissing_7 ?_
  refine lv_iload_n hx hb dX9_ofMissing_8 rfl (lv_at hl 2 rfl) ?_
  refine lv_iadd hx hb dX9_ofMissing_9 ?_
  obtain ⟨h4, hf⟩ := mChk hf
  refine mld1 B hw h4 dX9_ofMissing_10 ?_
  rw [hQm, ← Option.some.inj hf]
  exact mri hx hb hr hlk hw dX9_ofMissing_11
def f_X9_sharesNone (K : mK) (a0 : Int32) (a1 : Int32) (I0 : mI) (J0 : mJ) (R0 : mR) : Option Bool :=
  if (a0 - a0 / (10 : Int32) * (10 : Int32)) = (a1 - a1 / (10 : Int32) * (10 : Int32)) then
  some false
  else
  if (a0 - a0 / (10 : Int32) * (10 : Int32)) = (a1 / (10 : Int32)) then
  some false
  else
  if (a0 / (10 : Int32)) = (a1 - a1 / (10 : Int32) * (10 : Int32)) then
  some false
  else
  if (a0 / (10 : Int32)) = (a1 / (10 : Int32)) then
  some false
  else
  some true
set_option maxHeartbeats 4000000 in
set_option maxRecDepth 100000 in
theorem r_X9_sharesNone (l : Launch) (g : mG) (K : mK) (n : Nat) (hJ : mInj g n) (hO : mOk K n) (a0 : Int32) (a1 : Int32) (I0 : mI) (J0 : mJ) (R0 : mR) (out : Bool) (hf : f_X9_sharesNone K a0 a1 I0 J0 R0 = some out) : Met l yX9_sharesNone (mWs yX9_sharesNone cX9_sharesNone 2 (some .boolean)) ({ frames := 0, cells := 0, slots := 0, locals := 0 }) (va_Pc [.int a0, .int a1] (mB g K n I0 J0 R0)) (mQ g K n (some (.int (mb out))) I0 J0 R0) 0 0 (mA g n) := by
  unfold f_X9_sharesNone at hf
  refine mStart RX9 hJ hO (by decide) rfl (Nat.le_of_ble_eq_true rfl) ?_
  intro p e s m below meth c ls Qm hQm B hr hlk hw hl
  have hx := B.1.1
  have hb := B.1.2.1
  have hl : lv_has ls 2 [(0, .int a0), (1, .int a1)] := hl
  refine lv_iload_n hx hb dX9_sharesNone_0 rfl (lv_at hl 0 rfl) ?_
  refine lv_bipush (v := (10 : Int32)) hx hb dX9_sharesNone_1 (by decide) ?_
  refine lv_irem hx hb dX9_sharesNone_3 (by decide) ?_
  refine lv_iload_n hx hb dX9_sharesNone_4 rfl (lv_at hl 1 rfl) ?_
  refine lv_bipush (v := (10 : Int32)) hx hb dX9_sharesNone_5 (by decide) ?_
  refine lv_irem hx hb dX9_sharesNone_7 (by decide) ?_
  refine lv_icmp_eq (tgt := 48) hx hb dX9_sharesNone_8 (by decide) (fun c1 => ?_) (fun c1 => ?_)
  · replace hf := mT1 c1 hf
    refine lv_iconst (v := (0 : Int32)) hx hb dX9_sharesNone_48 (by decide) ?_
    rw [hQm, ← Option.some.inj hf]
    exact mrz (v := false) hx hb hr hlk hw dX9_sharesNone_49
  · replace hf := mF1 c1 hf
    refine lv_iload_n hx hb dX9_sharesNone_11 rfl (lv_at hl 0 rfl) ?_
    refine lv_bipush (v := (10 : Int32)) hx hb dX9_sharesNone_12 (by decide) ?_
    refine lv_irem hx hb dX9_sharesNone_14 (by decide) ?_
    refine lv_iload_n hx hb dX9_sharesNone_15 rfl (lv_at hl 1 rfl) ?_
    refine lv_bipush (v := (10 : Int32)) hx hb dX9_sharesNone_16 (by decide) ?_
    refine lv_idiv hx hb dX9_sharesNone_18 (by decide) ?_
    refine lv_icmp_eq (tgt := 48) hx hb dX9_sharesNone_19 (by decide) (fun c2 => ?_) (fun c2 => ?_)
    · replace hf := mT1 c2 hf
      refine lv_iconst (v := (0 : Int32)) hx hb dX9_sharesNone_48 (by decide) ?_
      rw [hQm, ← Option.some.inj hf]
      exact mrz (v := false) hx hb hr hlk hw dX9_sharesNone_49
    · replace hf := mF1 c2 hf
      refine lv_iload_n hx hb dX9_sharesNone_22 rfl (lv_at hl 0 rfl) ?_
      refine lv_bipush (v := (10 : Int32)) hx hb dX9_sharesNone_23 (by decide) ?_
      refine lv_idiv hx hb dX9_sharesNone_25 (by decide) ?_
      refine lv_iload_n hx hb dX9_sharesNone_26 rfl (lv_at hl 1 rfl) ?_
      refine lv_bipush (v := (10 : Int32)) hx hb dX9_sharesNone_27 (by decide) ?_
      refine lv_irem hx hb dX9_sharesNone_29 (by decide) ?_
      refine lv_icmp_eq (tgt := 48) hx hb dX9_sharesNone_30 (by decide) (fun c3 => ?_) (fun c3 => ?_)
      · replace hf := mT1 c3 hf
        refine lv_iconst (v := (0 : Int32)) hx hb dX9_sharesNone_48 (by decide) ?_
        rw [hQm, ← Option.some.inj hf]
        exact mrz (v := false) hx hb hr hlk hw dX9_sharesNone_49
      · replace hf := mF1 c3 hf
        refine lv_iload_n hx hb dX9_sharesNone_33 rfl (lv_at hl 0 rfl) ?_
        refine lv_bipush (v := (10 : Int32)) hx hb dX9_sharesNone_34 (by decide) ?_
        refine lv_idiv hx hb dX9_sharesNone_36 (by decide) ?_
        refine lv_iload_n hx hb dX9_sharesNone_37 rfl (lv_at hl 1 rfl) ?_
        refine lv_bipush (v := (10 : Int32)) hx hb dX9_sharesNone_38 (by decide) ?_
        refine lv_idiv hx hb dX9_sharesNone_40 (by decide) ?_
        refine lv_icmp_eq (tgt := 48) hx hb dX9_sharesNone_41 (by decide) (fun c4 => ?_) (fun c4 => ?_)
        · replace hf := mT1 c4 hf
          refine lv_iconst (v := (0 : Int32)) hx hb dX9_sharesNone_48 (by decide) ?_
          rw [hQm, ← Option.some.inj hf]
          exact mrz (v := false) hx hb hr hlk hw dX9_sharesNone_49
        · replace hf := mF1 c4 hf
          refine lv_iconst (v := (1 : Int32)) hx hb dX9_sharesNone_44 (by decide) ?_
          refine lv_goto (tgt := 49) hx hb dX9_sharesNone_45 (by decide) ?_
          rw [hQm, ← Option.some.inj hf]
          exact mrz (v := true) hx hb hr hlk hw dX9_sharesNone_49
