def f_X5_takeStatement (K : mK) (a0 : Nat) (a1 : Nat) (I0 : mI) (J0 : mJ) (R0 : mR) : Option (Bool × mI) :=
  if K a0 = (0, 5) then
  (f_X5_takeWord K a0 0 I0 J0 R0).bind fun z2 =>
  if (mb z2.1) = 0 then
  (f_X5_takeWord K a0 2 z2.2 J0 R0).bind fun z5 =>
  if (mb z5.1) = 0 then
  (f_X5_takeWord K a0 3 z5.2 J0 R0).bind fun z8 =>
  if (mb z8.1) = 0 then
  (f_X5_takeWord K a0 4 z8.2 J0 R0).bind fun z11 =>
  if (mb z11.1) = 0 then
  (f_X5_takeWord K a0 5 z11.2 J0 R0).bind fun z14 =>
  if (mb z14.1) = 0 then
  (f_X5_takeWord K a0 6 z14.2 J0 R0).bind fun z17 =>
  if (mb z17.1) = 0 then
  (f_X5_takeWord K a0 7 z17.2 J0 R0).bind fun z20 =>
  if (mb z20.1) = 0 then
  some (false, z20.2)
  else
  if K a1 = (0, 3) then
  (R0 a1 3).bind fun x24 =>
  (f_X5_takeTerm K a0 x24 (3 : Int32) (1 : Int32) (5 : Int32) z20.2 J0 R0).bind fun z26 =>
  if (mb z26.1) = 0 then
  some (false, z26.2)
  else
  some (true, z26.2)
  else none
  else
  if K a1 = (0, 3) then
  (R0 a1 3).bind fun x30 =>
  (f_X5_takeTerm K a0 x30 (2 : Int32) (0 : Int32) (999 : Int32) z17.2 J0 R0).bind fun z32 =>
  some (z32.1, z32.2)
  else none
  else
  if K a1 = (0, 3) then
  (R0 a1 3).bind fun x35 =>
  (f_X5_takeTerm K a0 x35 (1 : Int32) (0 : Int32) (999 : Int32) z14.2 J0 R0).bind fun z37 =>
  some (z37.1, z37.2)
  else none
  else
  if K a1 = (0, 3) then
  (R0 a1 3).bind fun x40 =>
  (f_X5_takeTerm K a0 x40 (0 : Int32) (0 : Int32) (999 : Int32) z11.2 J0 R0).bind fun z42 =>
  some (z42.1, z42.2)
  else none
  else
  if K a1 = (0, 3) then
  (R0 a1 2).bind fun x45 =>
  (f_X5_takeEntry K a0 x45 (1 : Int32) (9 : Int32) z8.2 J0 R0).bind fun z47 =>
  some (z47.1, z47.2)
  else none
  else
  if K a1 = (0, 3) then
  (R0 a1 1).bind fun x50 =>
  (f_X5_takeEntry K a0 x50 (0 : Int32) (3 : Int32) z5.2 J0 R0).bind fun z52 =>
  some (z52.1, z52.2)
  else none
  else
  if K a1 = (0, 3) then
  (R0 a1 0).bind fun x55 =>
  (f_X5_takeEntry K a0 x55 (1 : Int32) (3 : Int32) z2.2 J0 R0).bind fun z57 =>
  some (z57.1, z57.2)
  else none
  else none
set_option maxHeartbeats 4000000 in
set_option maxRecDepth 100000 in
theorem r_X5_takeStatement (l : Launch) (g : mG) (K : mK) (n : Nat) (hJ : mInj g n) (hO : mOk K n) (a0 : Nat) (a1 : Nat) (I0 : mI) (J0 : mJ) (R0 : mR) (out : (Bool × mI)) (hf : f_X5_takeStatement K a0 a1 I0 J0 R0 = some out) : Met l yX5_takeStatement (mWs yX5_takeStatement cX5_takeStatement 2 (some .boolean)) ({ frames := 6, cells := 0, slots := 0, locals := 157 }) (va_Pc [.ref (g.2.1 a0), .ref (g.2.1 a1)] (mB g K n I0 J0 R0)) (mQ g K n (some (.int (mb out.1))) out.2 J0 R0) 0 0 (mA g n) := by
  unfold f_X5_takeStatement at hf
  refine mStart RX5 hJ hO (by decide) rfl (Nat.le_of_ble_eq_true rfl) ?_
  intro p e s m below meth c ls Qm hQm B hr hlk hw hl
  have hx := B.1.1
  have hb := B.1.2.1
  have hl : lv_has ls 2 [(0, .ref (g.2.1 a0)), (1, .ref (g.2.1 a1))] := hl
  refine lv_aload_n hx hb dX5_takeStatement_0 rfl (lv_at hl 0 rfl) ?_
  refine va_ldcS hx hb B.1.2.2.2.1 (B.2.2.2.2.2.1 0 (by decide)) dX5_takeStatement_1 ?_
  obtain ⟨h1, hf⟩ := mChk hf
  obtain ⟨z2, e3, hf⟩ := mBind hf
  refine mcallV (rest := []) (ci := 5) B hw [.ref (g.2.2.2.1 0)] clX5_45 rfl h1 (r_X5_takeWord l g K n hJ hO a0 0 I0 J0 R0 z2 e3) ⟨rfl, rfl, Nat.le_of_ble_eq_true rfl, Nat.le_of_ble_eq_true rfl⟩ rfl hl.1 (Nat.le_of_ble_eq_true rfl) ⟨Nat.zero_le _, Nat.zero_le _⟩ dX5_takeStatement_3 (fun H locs hw => ?_)
  refine W.eq (g2 := F0 m 6 ls [.int (mb z2.1)]) rfl ?_
  refine lv_if_eq (tgt := 20) hx hb dX5_takeStatement_6 (by decide) (fun c4 => ?_) (fun c4 => ?_)
  · replace hf := mT1 c4 hf
    refine lv_aload_n hx hb dX5_takeStatement_20 rfl (lv_at hl 0 rfl) ?_
    refine va_ldcS hx hb B.1.2.2.2.1 (B.2.2.2.2.2.1 2 (by decide)) dX5_takeStatement_21 ?_
    obtain ⟨z5, e6, hf⟩ := mBind hf
    refine mcallV (rest := []) (ci := 5) B hw [.ref (g.2.2.2.1 2)] clX5_45 rfl h1 (r_X5_takeWord l g K n hJ hO a0 2 z2.2 J0 R0 z5 e6) ⟨rfl, rfl, Nat.le_of_ble_eq_true rfl, Nat.le_of_ble_eq_true rfl⟩ rfl hl.1 (Nat.le_of_ble_eq_true rfl) ⟨Nat.zero_le _, Nat.zero_le _⟩ dX5_takeStatement_23 (fun H locs hw => ?_)
    refine W.eq (g2 := F0 m 26 ls [.int (mb z5.1)]) rfl ?_
    refine lv_if_eq (tgt := 40) hx hb dX5_takeStatement_26 (by decide) (fun c7 => ?_) (fun c7 => ?_)
    · replace hf := mT1 c7 hf
      refine lv_aload_n hx hb dX5_takeStatement_40 rfl (lv_at hl 0 rfl) ?_
      refine va_ldcS hx hb B.1.2.2.2.1 (B.2.2.2.2.2.1 3 (by decide)) dX5_takeStatement_41 ?_
      obtain ⟨z8, e9, hf⟩ := mBind hf
      refine mcallV (rest := []) (ci := 5) B hw [.ref (g.2.2.2.1 3)] clX5_45 rfl h1 (r_X5_takeWord l g K n hJ hO a0 3 z5.2 J0 R0 z8 e9) ⟨rfl, rfl, Nat.le_of_ble_eq_true rfl, Nat.le_of_ble_eq_true rfl⟩ rfl hl.1 (Nat.le_of_ble_eq_true rfl) ⟨Nat.zero_le _, Nat.zero_le _⟩ dX5_takeStatement_43 (fun H locs hw => ?_)
      refine W.eq (g2 := F0 m 46 ls [.int (mb z8.1)]) rfl ?_
      refine lv_if_eq (tgt := 61) hx hb dX5_takeStatement_46 (by decide) (fun c10 => ?_) (fun c10 => ?_)
      · replace hf := mT1 c10 hf
        refine lv_aload_n hx hb dX5_takeStatement_61 rfl (lv_at hl 0 rfl) ?_
        refine va_ldcS hx hb B.1.2.2.2.1 (B.2.2.2.2.2.1 4 (by decide)) dX5_takeStatement_62 ?_
        obtain ⟨z11, e12, hf⟩ := mBind hf
        refine mcallV (rest := []) (ci := 5) B hw [.ref (g.2.2.2.1 4)] clX5_45 rfl h1 (r_X5_takeWord l g K n hJ hO a0 4 z8.2 J0 R0 z11 e12) ⟨rfl, rfl, Nat.le_of_ble_eq_true rfl, Nat.le_of_ble_eq_true rfl⟩ rfl hl.1 (Nat.le_of_ble_eq_true rfl) ⟨Nat.zero_le _, Nat.zero_le _⟩ dX5_takeStatement_64 (fun H locs hw => ?_)
        refine W.eq (g2 := F0 m 67 ls [.int (mb z11.1)]) rfl ?_
        refine lv_if_eq (tgt := 84) hx hb dX5_takeStatement_67 (by decide) (fun c13 => ?_) (fun c13 => ?_)
        · replace hf := mT1 c13 hf
          refine lv_aload_n hx hb dX5_takeStatement_84 rfl (lv_at hl 0 rfl) ?_
          refine va_ldcS hx hb B.1.2.2.2.1 (B.2.2.2.2.2.1 5 (by decide)) dX5_takeStatement_85 ?_
          obtain ⟨z14, e15, hf⟩ := mBind hf
          refine mcallV (rest := []) (ci := 5) B hw [.ref (g.2.2.2.1 5)] clX5_45 rfl h1 (r_X5_takeWord l g K n hJ hO a0 5 z11.2 J0 R0 z14 e15) ⟨rfl, rfl, Nat.le_of_ble_eq_true rfl, Nat.le_of_ble_eq_true rfl⟩ rfl hl.1 (Nat.le_of_ble_eq_true rfl) ⟨Nat.zero_le _, Nat.zero_le _⟩ dX5_takeStatement_87 (fun H locs hw => ?_)
          refine W.eq (g2 := F0 m 90 ls [.int (mb z14.1)]) rfl ?_
          refine lv_if_eq (tgt := 107) hx hb dX5_takeStatement_90 (by decide) (fun c16 => ?_) (fun c16 => ?_)
          · replace hf := mT1 c16 hf
            refine lv_aload_n hx hb dX5_takeStatement_107 rfl (lv_at hl 0 rfl) ?_
            refine va_ldcS hx hb B.1.2.2.2.1 (B.2.2.2.2.2.1 6 (by decide)) dX5_takeStatement_108 ?_
            obtain ⟨z17, e18, hf⟩ := mBind hf
            refine mcallV (rest := []) (ci := 5) B hw [.ref (g.2.2.2.1 6)] clX5_45 rfl h1 (r_X5_takeWord l g K n hJ hO a0 6 z14.2 J0 R0 z17 e18) ⟨rfl, rfl, Nat.le_of_ble_eq_true rfl, Nat.le_of_ble_eq_true rfl⟩ rfl hl.1 (Nat.le_of_ble_eq_true rfl) ⟨Nat.zero_le _, Nat.zero_le _⟩ dX5_takeStatement_110 (fun H locs hw => ?_)
            refine W.eq (g2 := F0 m 113 ls [.int (mb z17.1)]) rfl ?_
            refine lv_if_eq (tgt := 130) hx hb dX5_takeStatement_113 (by decide) (fun c19 => ?_) (fun c19 => ?_)
            · replace hf := mT1 c19 hf
              refine lv_aload_n hx hb dX5_takeStatement_130 rfl (lv_at hl 0 rfl) ?_
              refine va_ldcS hx hb B.1.2.2.2.1 (B.2.2.2.2.2.1 7 (by decide)) dX5_takeStatement_131 ?_
              obtain ⟨z20, e21, hf⟩ := mBind hf
              refine mcallV (rest := []) (ci := 5) B hw [.ref (g.2.2.2.1 7)] clX5_45 rfl h1 (r_X5_takeWord l g K n hJ hO a0 7 z17.2 J0 R0 z20 e21) ⟨rfl, rfl, Nat.le_of_ble_eq_true rfl, Nat.le_of_ble_eq_true rfl⟩ rfl hl.1 (Nat.le_of_ble_eq_true rfl) ⟨Nat.zero_le _, Nat.zero_le _⟩ dX5_takeStatement_133 (fun H locs hw => ?_)
              refine W.eq (g2 := F0 m 136 ls [.int (mb z20.1)]) rfl ?_
              refine lv_if_eq (tgt := 157) hx hb dX5_takeStatement_136 (by decide) (fun c22 => ?_) (fun c22 => ?_)
              · replace hf := mT1 c22 hf
                refine lv_iconst (v := (0 : Int32)) hx hb dX5_takeStatement_157 (by decide) ?_
                rw [hQm, ← Option.some.inj hf]
                exact mrz (v := false) hx hb hr hlk hw dX5_takeStatement_158
              · replace hf := mF1 c22 hf
                refine lv_aload_n hx hb dX5_takeStatement_139 rfl (lv_at hl 0 rfl) ?_
                refine lv_aload_n hx hb dX5_takeStatement_140 rfl (lv_at hl 1 rfl) ?_
                obtain ⟨h23, hf⟩ := mChk hf
                obtain ⟨x24, e25, hf⟩ := mBind hf
                refine mgr B hw flX5_66 rfl h23 e25 dX5_takeStatement_141 ?_
                refine lv_iconst (v := (3 : Int32)) hx hb dX5_takeStatement_144 (by decide) ?_
                refine lv_iconst (v := (1 : Int32)) hx hb dX5_takeStatement_145 (by decide) ?_
                refine lv_iconst (v := (5 : Int32)) hx hb dX5_takeStatement_146 (by decide) ?_
                obtain ⟨z26, e27, hf⟩ := mBind hf
                refine mcallV (rest := []) (ci := 5) B hw [.ref (g.2.1 x24), .int (3 : Int32), .int (1 : Int32), .int (5 : Int32)] clX5_69 rfl h1 (r_X5_takeTerm l g K n hJ hO a0 x24 (3 : Int32) (1 : Int32) (5 : Int32) z20.2 J0 R0 z26 e27) ⟨rfl, rfl, Nat.le_of_ble_eq_true rfl, Nat.le_of_ble_eq_true rfl⟩ rfl hl.1 (Nat.le_of_ble_eq_true rfl) ⟨Nat.zero_le _, Nat.zero_le _⟩ dX5_takeStatement_147 (fun H locs hw => ?_)
                refine W.eq (g2 := F0 m 150 ls [.int (mb z26.1)]) rfl ?_
                refine lv_if_eq (tgt := 157) hx hb dX5_takeStatement_150 (by decide) (fun c28 => ?_) (fun c28 => ?_)
                · replace hf := mT1 c28 hf
                  refine lv_iconst (v := (0 : Int32)) hx hb dX5_takeStatement_157 (by decide) ?_
                  rw [hQm, ← Option.some.inj hf]
                  exact mrz (v := false) hx hb hr hlk hw dX5_takeStatement_158
                · replace hf := mF1 c28 hf
                  refine lv_iconst (v := (1 : Int32)) hx hb dX5_takeStatement_153 (by decide) ?_
                  refine lv_goto (tgt := 158) hx hb dX5_takeStatement_154 (by decide) ?_
                  rw [hQm, ← Option.some.inj hf]
                  exact mrz (v := true) hx hb hr hlk hw dX5_takeStatement_158
            · replace hf := mF1 c19 hf
              refine lv_aload_n hx hb dX5_takeStatement_116 rfl (lv_at hl 0 rfl) ?_
              refine lv_aload_n hx hb dX5_takeStatement_117 rfl (lv_at hl 1 rfl) ?_
              obtain ⟨h29, hf⟩ := mChk hf
              obtain ⟨x30, e31, hf⟩ := mBind hf
              refine mgr B hw flX5_66 rfl h29 e31 dX5_takeStatement_118 ?_
              refine lv_iconst (v := (2 : Int32)) hx hb dX5_takeStatement_121 (by decide) ?_
              refine lv_iconst (v := (0 : Int32)) hx hb dX5_takeStatement_122 (by decide) ?_
              refine lv_sipush (v := (999 : Int32)) hx hb dX5_takeStatement_123 (by decide) ?_
              obtain ⟨z32, e33, hf⟩ := mBind hf
              refine mcallV (rest := []) (ci := 5) B hw [.ref (g.2.1 x30), .int (2 : Int32), .int (0 : Int32), .int (999 : Int32)] clX5_69 rfl h1 (r_X5_takeTerm l g K n hJ hO a0 x30 (2 : Int32) (0 : Int32) (999 : Int32) z17.2 J0 R0 z32 e33) ⟨rfl, rfl, Nat.le_of_ble_eq_true rfl, Nat.le_of_ble_eq_true rfl⟩ rfl hl.1 (Nat.le_of_ble_eq_true rfl) ⟨Nat.zero_le _, Nat.zero_le _⟩ dX5_takeStatement_126 (fun H locs hw => ?_)
              refine W.eq (g2 := F0 m 129 ls [.int (mb z32.1)]) rfl ?_
              rw [hQm, ← Option.some.inj hf]
              exact mrz (v := z32.1) hx hb hr hlk hw dX5_takeStatement_129
          · replace hf := mF1 c16 hf
            refine lv_aload_n hx hb dX5_takeStatement_93 rfl (lv_at hl 0 rfl) ?_
            refine lv_aload_n hx hb dX5_takeStatement_94 rfl (lv_at hl 1 rfl) ?_
            obtain ⟨h34, hf⟩ := mChk hf
            obtain ⟨x35, e36, hf⟩ := mBind hf
            refine mgr B hw flX5_66 rfl h34 e36 dX5_takeStatement_95 ?_
            refine lv_iconst (v := (1 : Int32)) hx hb dX5_takeStatement_98 (by decide) ?_
            refine lv_iconst (v := (0 : Int32)) hx hb dX5_takeStatement_99 (by decide) ?_
            refine lv_sipush (v := (999 : Int32)) hx hb dX5_takeStatement_100 (by decide) ?_
            obtain ⟨z37, e38, hf⟩ := mBind hf
            refine mcallV (rest := []) (ci := 5) B hw [.ref (g.2.1 x35), .int (1 : Int32), .int (0 : Int32), .int (999 : Int32)] clX5_69 rfl h1 (r_X5_takeTerm l g K n hJ hO a0 x35 (1 : Int32) (0 : Int32) (999 : Int32) z14.2 J0 R0 z37 e38) ⟨rfl, rfl, Nat.le_of_ble_eq_true rfl, Nat.le_of_ble_eq_true rfl⟩ rfl hl.1 (Nat.le_of_ble_eq_true rfl) ⟨Nat.zero_le _, Nat.zero_le _⟩ dX5_takeStatement_103 (fun H locs hw => ?_)
            refine W.eq (g2 := F0 m 106 ls [.int (mb z37.1)]) rfl ?_
            rw [hQm, ← Option.some.inj hf]
            exact mrz (v := z37.1) hx hb hr hlk hw dX5_takeStatement_106
        · replace hf := mF1 c13 hf
          refine lv_aload_n hx hb dX5_takeStatement_70 rfl (lv_at hl 0 rfl) ?_
          refine lv_aload_n hx hb dX5_takeStatement_71 rfl (lv_at hl 1 rfl) ?_
          obtain ⟨h39, hf⟩ := mChk hf
          obtain ⟨x40, e41, hf⟩ := mBind hf
          refine mgr B hw flX5_66 rfl h39 e41 dX5_takeStatement_72 ?_
          refine lv_iconst (v := (0 : Int32)) hx hb dX5_takeStatement_75 (by decide) ?_
          refine lv_iconst (v := (0 : Int32)) hx hb dX5_takeStatement_76 (by decide) ?_
          refine lv_sipush (v := (999 : Int32)) hx hb dX5_takeStatement_77 (by decide) ?_
          obtain ⟨z42, e43, hf⟩ := mBind hf
          refine mcallV (rest := []) (ci := 5) B hw [.ref (g.2.1 x40), .int (0 : Int32), .int (0 : Int32), .int (999 : Int32)] clX5_69 rfl h1 (r_X5_takeTerm l g K n hJ hO a0 x40 (0 : Int32) (0 : Int32) (999 : Int32) z11.2 J0 R0 z42 e43) ⟨rfl, rfl, Nat.le_of_ble_eq_true rfl, Nat.le_of_ble_eq_true rfl⟩ rfl hl.1 (Nat.le_of_ble_eq_true rfl) ⟨Nat.zero_le _, Nat.zero_le _⟩ dX5_takeStatement_80 (fun H locs hw => ?_)
          refine W.eq (g2 := F0 m 83 ls [.int (mb z42.1)]) rfl ?_
          rw [hQm, ← Option.some.inj hf]
          exact mrz (v := z42.1) hx hb hr hlk hw dX5_takeStatement_83
      · replace hf := mF1 c10 hf
        refine lv_aload_n hx hb dX5_takeStatement_49 rfl (lv_at hl 0 rfl) ?_
        refine lv_aload_n hx hb dX5_takeStatement_50 rfl (lv_at hl 1 rfl) ?_
        obtain ⟨h44, hf⟩ := mChk hf
        obtain ⟨x45, e46, hf⟩ := mBind hf
        refine mgr B hw flX5_62 rfl h44 e46 dX5_takeStatement_51 ?_
        refine lv_iconst (v := (1 : Int32)) hx hb dX5_takeStatement_54 (by decide) ?_
        refine lv_bipush (v := (9 : Int32)) hx hb dX5_takeStatement_55 (by decide) ?_
        obtain ⟨z47, e48, hf⟩ := mBind hf
        refine mcallV (rest := []) (ci := 5) B hw [.ref (g.2.1 x45), .int (1 : Int32), .int (9 : Int32)] clX5_52 rfl h1 (r_X5_takeEntry l g K n hJ hO a0 x45 (1 : Int32) (9 : Int32) z8.2 J0 R0 z47 e48) ⟨rfl, rfl, Nat.le_of_ble_eq_true rfl, Nat.le_of_ble_eq_true rfl⟩ rfl hl.1 (Nat.le_of_ble_eq_true rfl) ⟨Nat.zero_le _, Nat.zero_le _⟩ dX5_takeStatement_57 (fun H locs hw => ?_)
        refine W.eq (g2 := F0 m 60 ls [.int (mb z47.1)]) rfl ?_
        rw [hQm, ← Option.some.inj hf]
        exact mrz (v := z47.1) hx hb hr hlk hw dX5_takeStatement_60
    · replace hf := mF1 c7 hf
      refine lv_aload_n hx hb dX5_takeStatement_29 rfl (lv_at hl 0 rfl) ?_
      refine lv_aload_n hx hb dX5_takeStatement_30 rfl (lv_at hl 1 rfl) ?_
      obtain ⟨h49, hf⟩ := mChk hf
      obtain ⟨x50, e51, hf⟩ := mBind hf
      refine mgr B hw flX5_58 rfl h49 e51 dX5_takeStatement_31 ?_
      refine lv_iconst (v := (0 : Int32)) hx hb dX5_takeStatement_34 (by decide) ?_
      refine lv_iconst (v := (3 : Int32)) hx hb dX5_takeStatement_35 (by decide) ?_
      obtain ⟨z52, e53, hf⟩ := mBind hf
      refine mcallV (rest := []) (ci := 5) B hw [.ref (g.2.1 x50), .int (0 : Int32), .int (3 : Int32)] clX5_52 rfl h1 (r_X5_takeEntry l g K n hJ hO a0 x50 (0 : Int32) (3 : Int32) z5.2 J0 R0 z52 e53) ⟨rfl, rfl, Nat.le_of_ble_eq_true rfl, Nat.le_of_ble_eq_true rfl⟩ rfl hl.1 (Nat.le_of_ble_eq_true rfl) ⟨Nat.zero_le _, Nat.zero_le _⟩ dX5_takeStatement_36 (fun H locs hw => ?_)
      refine W.eq (g2 := F0 m 39 ls [.int (mb z52.1)]) rfl ?_
      rw [hQm, ← Option.some.inj hf]
      exact mrz (v := z52.1) hx hb hr hlk hw dX5_takeStatement_39
  · replace hf := mF1 c4 hf
    refine lv_aload_n hx hb dX5_takeStatement_9 rfl (lv_at hl 0 rfl) ?_
    refine lv_aload_n hx hb dX5_takeStatement_10 rfl (lv_at hl 1 rfl) ?_
    obtain ⟨h54, hf⟩ := mChk hf
    obtain ⟨x55, e56, hf⟩ := mBind hf
    refine mgr B hw flX5_49 rfl h54 e56 dX5_takeStatement_11 ?_
    refine lv_iconst (v := (1 : Int32)) hx hb dX5_takeStatement_14 (by decide) ?_
    refine lv_iconst (v := (3 : Int32)) hx hb dX5_takeStatement_15 (by decide) ?_
    obtain ⟨z57, e58, hf⟩ := mBind hf
    refine mcallV (rest := []) (ci := 5) B hw [.ref (g.2.1 x55), .int (1 : Int32), .int (3 : Int32)] clX5_52 rfl h1 (r_X5_takeEntry l g K n hJ hO a0 x55 (1 : Int32) (3 : Int32) z2.2 J0 R0 z57 e58) ⟨rfl, rfl, Nat.le_of_ble_eq_true rfl, Nat.le_of_ble_eq_true rfl⟩ rfl hl.1 (Nat.le_of_ble_eq_true rfl) ⟨Nat.zero_le _, Nat.zero_le _⟩ dX5_takeStatement_16 (fun H locs hw => ?_)
    refine W.eq (g2 := F0 m 19 ls [.int (mb z57.1)]) rfl ?_
    rw [hQm, ← Option.some.inj hf]
    exact mrz (v := z57.1) hx hb hr hlk hw dX5_takeStatement_19
def f_X5_read_L34 (K : mK) (v0 : Nat) (v3 : Nat) (J0 : mJ) (R : mR) : Nat → Int32 → Bool → mI → Option (Int32 × Bool × mI)
  | 0, _, _, _ => none
  | N + 1, v4, v5, I =>
  if (mb v5) = 0 then
  some (v4, v5, I)
  else
  if K v0 = (0, 5) then
  if (I v0 1) ≤ (I v0 2) then
  some (v4, v5, I)
  else
  if (20 : Int32) ≤ v4 then
  some (v4, v5, I)
  else
  (f_X5_takeStatement K v0 v3 I J0 R).bind fun z5 =>
  (f_X5_skipBlanks K v0 z5.2 J0 R).bind fun z7 =>
  f_X5_read_L34 K v0 v3 J0 R N (v4 + (1 : Int32)) z5.1 z7
  else none
def f_X5_read (K : mK) (a0 : Nat) (a1 : Nat) (a2 : Int32) (a3 : Nat) (I0 : mI) (J0 : mJ) (R0 : mR) : Option (Int32 × mI × mR) :=
  if K a0 = (0, 5) then
  (some (mup R0 a0 0 (some a1))).bind fun R10 =>
  if (K a1).1 = 2 then
  (some (mup I0 a0 1 (imin a2 (nI (K a1).2)))).bind fun I13 =>
  (some (mup I13 a0 2 (0 : Int32))).bind fun I15 =>
  if K a3 = (0, 3) then
  (f_X3_reset K a3 I15 J0 R10).bind fun z18 =>
  (f_X5_skipBlanks K a0 z18 J0 R10).bind fun z20 =>
  (f_X5_read_L34 K a0 a3 J0 R10 8192 (0 : Int32) true z20).bind fun z22 =>
  if (z22.2.2 a0 2) < (z22.2.2 a0 1) then
  (some (mup z22.2.2 a0 4 (z22.2.2 a0 2))).bind fun I25 =>
  if (I25 a0 4) = (-1 : Int32) then
  some (z22.1, I25, R10)
  else
  some ((-1 : Int32), I25, R10)
  else
  if (mb z22.2.1) = 0 then
  (some (mup z22.2.2 a0 4 (z22.2.2 a0 2))).bind fun I32 =>
  if (I32 a0 4) = (-1 : Int32) then
  some (z22.1, I32, R10)
  else
  some ((-1 : Int32), I32, R10)
  else
  (some (mup z22.2.2 a0 4 (-1 : Int32))).bind fun I29 =>
  if (I29 a0 4) = (-1 : Int32) then
  some (z22.1, I29, R10)
  else
  some ((-1 : Int32), I29, R10)
  else none
  else none
  else none
set_option maxHeartbeats 4000000 in
set_option maxRecDepth 100000 in
theorem r_X5_read (l : Launch) (g : mG) (K : mK) (n : Nat) (hJ : mInj g n) (hO : mOk K n) (a0 : Nat) (a1 : Nat) (a2 : Int32) (a3 : Nat) (I0 : mI) (J0 : mJ) (R0 : mR) (out : (Int32 × mI × mR)) (hf : f_X5_read K a0 a1 a2 a3 I0 J0 R0 = some out) : Met l yX5_read (mWs yX5_read cX5_read 6 (some .int)) ({ frames := 7, cells := 0, slots := 0, locals := 178 }) (va_Pc [.ref (g.2.1 a0), .ref (g.2.1 a1), .int a2, .ref (g.2.1 a3)] (mB g K n I0 J0 R0)) (mQ g K n (some (.int out.1)) out.2.1 J0 out.2.2) 0 0 (mA g n) := by
  unfold f_X5_read at hf
  refine mStart RX5 hJ hO (by decide) rfl (Nat.le_of_ble_eq_true rfl) ?_
  intro p e s m below meth c ls Qm hQm B hr hlk hw hl
  have hx := B.1.1
  have hb := B.1.2.1
  have hl : lv_has ls 6 [(0, .ref (g.2.1 a0)), (1, .ref (g.2.1 a1)), (2, .int a2), (3, .ref (g.2.1 a3))] := hl
  have L34 : ∀ (N : Nat) (v0 : Nat) (v3 : Nat) (v4 : Int32) (v5 : Bool) (I : mI) (R : mR) (z : (Int32 × Bool × mI)) (H : Heap) (locs : List Loc) (ls : Array Slot), f_X5_read_L34 K v0 v3 J0 R N v4 v5 I = some z → mHp g K n s I J0 R H locs → lv_has ls 6 [(0, .ref (g.2.1 v0)), (3, .ref (g.2.1 v3)), (4, .int v4), (5, .int (mb v5))] → (∀ (H : Heap) (locs : List Loc) (ls : Array Slot), mHp g K n s z.2.2 J0 R H locs → lv_has ls 6 [(0, .ref (g.2.1 v0)), (4, .int z.1), (5, .int (mb z.2.1))] → W p l e ({ frames := 7, cells := 0, slots := 0, locals := 178 } : Room) s m ([.ref (g.2.1 a0), .ref (g.2.1 a1), .int a2, .ref (g.2.1 a3)] : List Value).toArray below meth c H locs 0 0 Qm (F0 m 74 ls [])) → W p l e ({ frames := 7, cells := 0, slots := 0, locals := 178 } : Room) s m ([.ref (g.2.1 a0), .ref (g.2.1 a1), .int a2, .ref (g.2.1 a3)] : List Value).toArray below meth c H locs 0 0 Qm (F0 m 34 ls []) := by
    intro N
    induction N with
    | zero =>
      intro v0 v3 v4 v5 I R z H locs ls hf hw hl kx
      rw [f_X5_read_L34] at hf
      cases hf
    | succ N ih =>
      intro v0 v3 v4 v5 I R z H locs ls hf hw hl kx
      rw [f_X5_read_L34] at hf
      refine lv_iload hx hb dX5_read_34 (lv_at hl 3 rfl) ?_
      refine lv_if_eq (tgt := 74) hx hb dX5_read_36 (by decide) (fun c1 => ?_) (fun c1 => ?_)
      · replace hf := mT1 c1 hf
        obtain rfl := Option.some.inj hf
        exact kx _ _ _ hw (lv_sub hl [0, 2, 3] rfl)
      · replace hf := mF1 c1 hf
        refine lv_aload_n hx hb dX5_read_39 rfl (lv_at hl 0 rfl) ?_
        obtain ⟨h2, hf⟩ := mChk hf
        refine mgi B hw flX5_28 rfl h2 dX5_read_40 ?_
        refine lv_aload_n hx hb dX5_read_43 rfl (lv_at hl 0 rfl) ?_
        refine mgi B hw flX5_25 rfl h2 dX5_read_44 ?_
        refine lv_icmp_ge (tgt := 74) hx hb dX5_read_47 (by decide) (fun c3 => ?_) (fun c3 => ?_)
        · replace hf := mT1 c3 hf
          obtain rfl := Option.some.inj hf
          exact kx _ _ _ hw (lv_sub hl [0, 2, 3] rfl)
        · replace hf := mF1 c3 hf
          refine lv_iload hx hb dX5_read_50 (lv_at hl 2 rfl) ?_
          refine lv_bipush (v := (20 : Int32)) hx hb dX5_read_52 (by decide) ?_
          refine lv_icmp_ge (tgt := 74) hx hb dX5_read_54 (by decide) (fun c4 => ?_) (fun c4 => ?_)
          · replace hf := mT1 c4 hf
            obtain rfl := Option.some.inj hf
            exact kx _ _ _ hw (lv_sub hl [0, 2, 3] rfl)
          · replace hf := mF1 c4 hf
            refine lv_iinc (v := (v4 + (1 : Int32))) (lv' := [(4, .int (v4 + (1 : Int32))), (0, .ref (g.2.1 v0)), (3, .ref (g.2.1 v3)), (5, .int (mb v5))]) hx hb dX5_read_57 hl (k := 2) rfl rfl (by decide) rfl (fun ls hl => ?_)
            refine lv_aload_n hx hb dX5_read_60 rfl (lv_at hl 1 rfl) ?_
            refine lv_aload_n hx hb dX5_read_61 rfl (lv_at hl 2 rfl) ?_
            obtain ⟨z5, e6, hf⟩ := mBind hf
            refine mcallV (rest := []) (ci := 5) B hw [.ref (g.2.1 v3)] clX5_39 rfl h2 (r_X5_takeStatement l g K n hJ hO v0 v3 I J0 R z5 e6) ⟨rfl, rfl, Nat.le_of_ble_eq_true rfl, Nat.le_of_ble_eq_true rfl⟩ rfl hl.1 (Nat.le_of_ble_eq_true rfl) ⟨Nat.zero_le _, Nat.zero_le _⟩ dX5_read_62 (fun H locs hw => ?_)
            refine W.eq (g2 := F0 m 65 ls [.int (mb z5.1)]) rfl ?_
            refine lv_istore (lv' := [(5, .int (mb z5.1)), (4, .int (v4 + (1 : Int32))), (0, .ref (g.2.1 v0)), (3, .ref (g.2.1 v3))]) hx hb dX5_read_65 hl (by decide) rfl (fun ls hl => ?_)
            refine lv_aload_n hx hb dX5_read_67 rfl (lv_at hl 2 rfl) ?_
            obtain ⟨z7, e8, hf⟩ := mBind hf
            refine mcallV (rest := []) (ci := 5) B hw [] clX5_36 rfl h2 (r_X5_skipBlanks l g K n hJ hO v0 z5.2 J0 R z7 e8) ⟨rfl, rfl, Nat.le_of_ble_eq_true rfl, Nat.le_of_ble_eq_true rfl⟩ rfl hl.1 (Nat.le_of_ble_eq_true rfl) ⟨Nat.zero_le _, Nat.zero_le _⟩ dX5_read_68 (fun H locs hw => ?_)
            refine W.eq (g2 := F0 m 71 ls []) rfl ?_
            refine lv_goto (tgt := 34) hx hb dX5_read_71 (by decide) ?_
            exact ih v0 v3 (v4 + (1 : Int32)) z5.1 z7 R z _ _ _ hf hw (lv_sub hl [2, 3, 1, 0] rfl) kx
  refine lv_aload_n hx hb dX5_read_0 rfl (lv_at hl 0 rfl) ?_
  refine lv_aload_n hx hb dX5_read_1 rfl (lv_at hl 1 rfl) ?_
  obtain ⟨h9, hf⟩ := mChk hf
  obtain ⟨R10, e11, hf⟩ := mLet hf
  refine mpr B hw puX5_9 rfl h9 rfl rfl dX5_read_2 (fun H locs hw => ?_)
  rw [← e11] at hw
  refine lv_aload_n hx hb dX5_read_5 rfl (lv_at hl 0 rfl) ?_
  refine lv_iload_n hx hb dX5_read_6 rfl (lv_at hl 2 rfl) ?_
  refine lv_aload_n hx hb dX5_read_7 rfl (lv_at hl 1 rfl) ?_
  obtain ⟨h12, hf⟩ := mChk hf
  refine mlen2 B hw h12 dX5_read_8 ?_
  refine mmmin B hl.1 mhX5_19 (Nat.le_of_ble_eq_true rfl) (Nat.le_of_ble_eq_true rfl) (Nat.zero_le _) (Nat.zero_le _) dX5_read_9 ?_
  obtain ⟨I13, e14, hf⟩ := mLet hf
  refine mpi B hw puX5_25 rfl h9 dX5_read_12 (fun H locs hw => ?_)
  rw [← e14] at hw
  refine lv_aload_n hx hb dX5_read_15 rfl (lv_at hl 0 rfl) ?_
  refine lv_iconst (v := (0 : Int32)) hx hb dX5_read_16 (by decide) ?_
  obtain ⟨I15, e16, hf⟩ := mLet hf
  refine mpi B hw puX5_28 rfl h9 dX5_read_17 (fun H locs hw => ?_)
  rw [← e16] at hw
  refine lv_aload_n hx hb dX5_read_20 rfl (lv_at hl 3 rfl) ?_
  obtain ⟨h17, hf⟩ := mChk hf
  obtain ⟨z18, e19, hf⟩ := mBind hf
  refine mcallV (rest := []) (ci := 3) B hw [] clX5_31 rfl h17 (r_X3_reset l g K n hJ hO a3 I15 J0 R10 z18 e19) ⟨rfl, rfl, Nat.le_of_ble_eq_true rfl, Nat.le_of_ble_eq_true rfl⟩ rfl hl.1 (Nat.le_of_ble_eq_true rfl) ⟨Nat.zero_le _, Nat.zero_le _⟩ dX5_read_21 (fun H locs hw => ?_)
  refine W.eq (g2 := F0 m 24 ls []) rfl ?_
  refine lv_iconst (v := (0 : Int32)) hx hb dX5_read_24 (by decide) ?_
  refine lv_istore (lv' := [(4, .int (0 : Int32)), (0, .ref (g.2.1 a0)), (1, .ref (g.2.1 a1)), (2, .int a2), (3, .ref (g.2.1 a3))]) hx hb dX5_read_25 hl (by decide) rfl (fun ls hl => ?_)
  refine lv_iconst (v := (1 : Int32)) hx hb dX5_read_27 (by decide) ?_
  refine lv_istore (lv' := [(5, .int (1 : Int32)), (4, .int (0 : Int32)), (0, .ref (g.2.1 a0)), (1, .ref (g.2.1 a1)), (2, .int a2), (3, .ref (g.2.1 a3))]) hx hb dX5_read_28 hl (by decide) rfl (fun ls hl => ?_)
  refine lv_aload_n hx hb dX5_read_30 rfl (lv_at hl 2 rfl) ?_
  obtain ⟨z20, e21, hf⟩ := mBind hf
  refine mcallV (rest := []) (ci := 5) B hw [] clX5_36 rfl h9 (r_X5_skipBlanks l g K n hJ hO a0 z18 J0 R10 z20 e21) ⟨rfl, rfl, Nat.le_of_ble_eq_true rfl, Nat.le_of_ble_eq_true rfl⟩ rfl hl.1 (Nat.le_of_ble_eq_true rfl) ⟨Nat.zero_le _, Nat.zero_le _⟩ dX5_read_31 (fun H locs hw => ?_)
  refine W.eq (g2 := F0 m 34 ls []) rfl ?_
  obtain ⟨z22, e23, hf⟩ := mBind hf
  refine L34 8192 a0 a3 (0 : Int32) true z20 R10 z22 _ _ _ e23 hw (lv_sub hl [2, 5, 1, 0] rfl) (fun H locs ls hw hl => ?_)
  refine lv_aload_n hx hb dX5_read_74 rfl (lv_at hl 0 rfl) ?_
  refine lv_aload_n hx hb dX5_read_75 rfl (lv_at hl 0 rfl) ?_
  refine mgi B hw flX5_28 rfl h9 dX5_read_76 ?_
  refine lv_aload_n hx hb dX5_read_79 rfl (lv_at hl 0 rfl) ?_
  refine mgi B hw flX5_25 rfl h9 dX5_read_80 ?_
  refine lv_icmp_lt (tgt := 91) hx hb dX5_read_83 (by decide) (fun c24 => ?_) (fun c24 => ?_)
  · replace hf := mT1 c24 hf
    refine lv_aload_n hx hb dX5_read_91 rfl (lv_at hl 0 rfl) ?_
    refine mgi B hw flX5_28 rfl h9 dX5_read_92 ?_
    refine lv_goto (tgt := 99) hx hb dX5_read_95 (by decide) ?_
    obtain ⟨I25, e26, hf⟩ := mLet hf
    refine mpi B hw puX5_15 rfl h9 dX5_read_99 (fun H locs hw => ?_)
    rw [← e26] at hw
    refine lv_aload_n hx hb dX5_read_102 rfl (lv_at hl 0 rfl) ?_
    refine mgi B hw flX5_15 rfl h9 dX5_read_103 ?_
    refine lv_iconst (v := (-1 : Int32)) hx hb dX5_read_106 (by decide) ?_
    refine lv_icmp_ne (tgt := 115) hx hb dX5_read_107 (by decide) (fun c27 => ?_) (fun c27 => ?_)
    · replace hf := mF1 c27 hf
      refine lv_iconst (v := (-1 : Int32)) hx hb dX5_read_115 (by decide) ?_
      rw [hQm, ← Option.some.inj hf]
      exact mri hx hb hr hlk hw dX5_read_116
    · replace hf := mT1 c27 hf
      refine lv_iload hx hb dX5_read_110 (lv_at hl 1 rfl) ?_
      refine lv_goto (tgt := 116) hx hb dX5_read_112 (by decide) ?_
      rw [hQm, ← Option.some.inj hf]
      exact mri hx hb hr hlk hw dX5_read_116
  · replace hf := mF1 c24 hf
    refine lv_iload hx hb dX5_read_86 (lv_at hl 2 rfl) ?_
    refine lv_if_ne (tgt := 98) hx hb dX5_read_88 (by decide) (fun c28 => ?_) (fun c28 => ?_)
    · replace hf := mF1 c28 hf
      refine lv_iconst (v := (-1 : Int32)) hx hb dX5_read_98 (by decide) ?_
      obtain ⟨I29, e30, hf⟩ := mLet hf
      refine mpi B hw puX5_15 rfl h9 dX5_read_99 (fun H locs hw => ?_)
      rw [← e30] at hw
      refine lv_aload_n hx hb dX5_read_102 rfl (lv_at hl 0 rfl) ?_
      refine mgi B hw flX5_15 rfl h9 dX5_read_103 ?_
      refine lv_iconst (v := (-1 : Int32)) hx hb dX5_read_106 (by decide) ?_
      refine lv_icmp_ne (tgt := 115) hx hb dX5_read_107 (by decide) (fun c31 => ?_) (fun c31 => ?_)
      · replace hf := mF1 c31 hf
        refine lv_iconst (v := (-1 : Int32)) hx hb dX5_read_115 (by decide) ?_
        rw [hQm, ← Option.some.inj hf]
        exact mri hx hb hr hlk hw dX5_read_116
      · replace hf := mT1 c31 hf
        refine lv_iload hx hb dX5_read_110 (lv_at hl 1 rfl) ?_
        refine lv_goto (tgt := 116) hx hb dX5_read_112 (by decide) ?_
        rw [hQm, ← Option.some.inj hf]
        exact mri hx hb hr hlk hw dX5_read_116
    · replace hf := mT1 c28 hf
      refine lv_aload_n hx hb dX5_read_91 rfl (lv_at hl 0 rfl) ?_
      refine mgi B hw flX5_28 rfl h9 dX5_read_92 ?_
      refine lv_goto (tgt := 99) hx hb dX5_read_95 (by decide) ?_
      obtain ⟨I32, e33, hf⟩ := mLet hf
      refine mpi B hw puX5_15 rfl h9 dX5_read_99 (fun H locs hw => ?_)
      rw [← e33] at hw
      refine lv_aload_n hx hb dX5_read_102 rfl (lv_at hl 0 rfl) ?_
      refine mgi B hw flX5_15 rfl h9 dX5_read_103 ?_
      refine lv_iconst (v := (-1 : Int32)) hx hb dX5_read_106 (by decide) ?_
      refine lv_icmp_ne (tgt := 115) hx hb dX5_read_107 (by decide) (fun c34 => ?_) (fun c34 => ?_)
      · replace hf := mF1 c34 hf
        refine lv_iconst (v := (-1 : Int32)) hx hb dX5_read_115 (by decide) ?_
        rw [hQm, ← Option.some.inj hf]
        exact mri hx hb hr hlk hw dX5_read_116
      · replace hf := mT1 c34 hf
        refine lv_iload hx hb dX5_read_110 (lv_at hl 1 rfl) ?_
        refine lv_goto (tgt := 116) hx hb dX5_read_112 (by decide) ?_
        rw [hQm, ← Option.some.inj hf]
        exact mri hx hb hr hlk hw dX5_read_116
def f_X6_pairOf (K : mK) (a0 : Int32) (a1 : Int32) (I0 : mI) (J0 : mJ) (R0 : mR) : Option Int32 :=
  some ((a0 * (12 : Int32)) + a1)
set_option maxHeartbeats 4000000 in
set_option maxRecDepth 100000 in
theorem r_X6_pairOf (l : Launch) (g : mG) (K : mK) (n : Nat) (hJ : mInj g n) (hO : mOk K n) (a0 : Int32) (a1 : Int32) (I0 : mI) (J0 : mJ) (R0 : mR) (out : Int32) (hf : f_X6_pairOf K a0 a1 I0 J0 R0 = some out) : Met l yX6_pairOf (mWs yX6_pairOf cX6_pairOf 2 (some .int)) ({ frames := 0, cells := 0, slots := 0, locals := 0 }) (va_Pc [.int a0, .int a1] (mB g K n I0 J0 R0)) (mQ g K n (some (.int out)) I0 J0 R0) 0 0 (mA g n) := by
  unfold f_X6_pairOf at hf
  refine mStart RX6 hJ hO (by decide) rfl (Nat.le_of_ble_eq_true rfl) ?_
  intro p e s m below meth c ls Qm hQm B hr hlk hw hl
  have hx := B.1.1
  have hb := B.1.2.1
  have hl : lv_has ls 2 [(0, .int a0), (1, .int a1)] := hl
  refine lv_iload_n hx hb dX6_pairOf_0 rfl (lv_at hl 0 rfl) ?_
  refine lv_bipush (v := (12 : Int32)) hx hb dX6_pairOf_1 (by decide) ?_
  refine lv_imul hx hb dX6_pairOf_3 ?_
  refine lv_iload_n hx hb dX6_pairOf_4 rfl (lv_at hl 1 rfl) ?_
  refine lv_iadd hx hb dX6_pairOf_5 ?_
  rw [hQm, ← Option.some.inj hf]
  exact mri hx hb hr hlk hw dX6_pairOf_6
def f_X6_bears_L3 (K : mK) (v0 : Nat) (v1 : Int32) (v2 : Int32) (v3 : Int32) (I0 : mI) (J0 : mJ) (R0 : mR) : Nat → Int32 → Option (Bool ⊕ Unit)
  | 0, _ => none
  | N + 1, v4 =>
  if K v0 = (0, 6) then
  if (I0 v0 2) ≤ v4 then
  some (Sum.inr ())
  else
  (R0 v0 0).bind fun x3 =>
  if mIx K x3 1 v4 then
  (f_X6_pairOf K v1 v2 I0 J0 R0).bind fun z6 =>
  if (I0 x3 (v4).toNatClampNeg) = z6 then
  (R0 v0 1).bind fun x9 =>
  if mIx K x9 1 v4 then
  if (I0 x9 (v4).toNatClampNeg) = v3 then
  some (Sum.inl true)
  else
  f_X6_bears_L3 K v0 v1 v2 v3 I0 J0 R0 N (v4 + (1 : Int32))
  else none
  else
  f_X6_bears_L3 K v0 v1 v2 v3 I0 J0 R0 N (v4 + (1 : Int32))
  else none
  else none
def f_X6_bears (K : mK) (a0 : Nat) (a1 : Int32) (a2 : Int32) (a3 : Int32) (I0 : mI) (J0 : mJ) (R0 : mR) : Option Bool :=
  (f_X6_bears_L3 K a0 a1 a2 a3 I0 J0 R0 8192 (0 : Int32)).bind fun z13 => Sum.elim (fun o => some o) (fun w15 =>
  some false) z13
set_option maxHeartbeats 4000000 in
set_option maxRecDepth 100000 in
theorem r_X6_bears (l : Launch) (g : mG) (K : mK) (n : Nat) (hJ : mInj g n) (hO : mOk K n) (a0 : Nat) (a1 : Int32) (a2 : Int32) (a3 : Int32) (I0 : mI) (J0 : mJ) (R0 : mR) (out : Bool) (hf : f_X6_bears K a0 a1 a2 a3 I0 J0 R0 = some out) : Met l yX6_bears (mWs yX6_bears cX6_bears 5 (some .boolean)) ({ frames := 1, cells := 0, slots := 0, locals := 21 }) (va_Pc [.ref (g.2.1 a0), .int a1, .int a2, .int a3] (mB g K n I0 J0 R0)) (mQ g K n (some (.int (mb out))) I0 J0 R0) 0 0 (mA g n) := by
  unfold f_X6_bears at hf
  refine mStart RX6 hJ hO (by decide) rfl (Nat.le_of_ble_eq_true rfl) ?_
  intro p e s m below meth c ls Qm hQm B hr hlk hw hl
  have hx := B.1.1
  have hb := B.1.2.1
  have hl : lv_has ls 5 [(0, .ref (g.2.1 a0)), (1, .int a1), (2, .int a2), (3, .int a3)] := hl
  have L3 : ∀ (N : Nat) (v0 : Nat) (v1 : Int32) (v2 : Int32) (v3 : Int32) (v4 : Int32) (z : (Bool ⊕ Unit)) (H : Heap) (locs : List Loc) (ls : Array Slot), f_X6_bears_L3 K v0 v1 v2 v3 I0 J0 R0 N v4 = some z → mHp g K n s I0 J0 R0 H locs → lv_has ls 5 [(0, .ref (g.2.1 v0)), (1, .int v1), (2, .int v2), (3, .int v3), (4, .int v4)] → (∀ w, z = Sum.inr w → (∀ (H : Heap) (locs : List Loc) (ls : Array Slot), mHp g K n s I0 J0 R0 H locs → lv_has ls 5 [] → W p l e ({ frames := 1, cells := 0, slots := 0, locals := 21 } : Room) s m ([.ref (g.2.1 a0), .int a1, .int a2, .int a3] : List Value).toArray below meth c H locs 0 0 Qm (F0 m 46 ls []))) → (∀ o, z = Sum.inl o → o = out) → W p l e ({ frames := 1, cells := 0, slots := 0, locals := 21 } : Room) s m ([.ref (g.2.1 a0), .int a1, .int a2, .int a3] : List Value).toArray below meth c H locs 0 0 Qm (F0 m 3 ls []) := by
    intro N
    induction N with
    | zero =>
      intro v0 v1 v2 v3 v4  z H locs ls hf hw hl kx ko
      rw [f_X6_bears_L3] at hf
      cases hf
    | succ N ih =>
      intro v0 v1 v2 v3 v4  z H locs ls hf hw hl kx ko
      rw [f_X6_bears_L3] at hf
      refine lv_iload hx hb dX6_bears_3 (lv_at hl 4 rfl) ?_
      refine lv_aload_n hx hb dX6_bears_5 rfl (lv_at hl 0 rfl) ?_
      obtain ⟨h1, hf⟩ := mChk hf
      refine mgi B hw flX6_18 rfl h1 dX6_bears_6 ?_
      refine lv_icmp_ge (tgt := 46) hx hb dX6_bears_9 (by decide) (fun c2 => ?_) (fun c2 => ?_)
      · replace hf := mT1 c2 hf
        obtain rfl := Option.some.inj hf
        exact kx _ rfl _ _ _ hw (lv_sub hl [] rfl)
      · replace hf := mF1 c2 hf
        refine lv_aload_n hx hb dX6_bears_12 rfl (lv_at hl 0 rfl) ?_
        obtain ⟨x3, e4, hf⟩ := mBind hf
        refine mgr B hw flX6_9 rfl h1 e4 dX6_bears_13 ?_
        refine lv_iload hx hb dX6_bears_16 (lv_at hl 4 rfl) ?_
        obtain ⟨h5, hf⟩ := mChk hf
        refine mld1 B hw h5 dX6_bears_18 ?_
        refine lv_iload_n hx hb dX6_bears_19 rfl (lv_at hl 1 rfl) ?_
        refine lv_iload_n hx hb dX6_bears_20 rfl (lv_at hl 2 rfl) ?_
        obtain ⟨z6, e7, hf⟩ := mBind hf
        refine mcallS (rest := [.int (I0 x3 (v4).toNatClampNeg)]) B hw [.int v1, .int v2] clX6_22 (r_X6_pairOf l g K n hJ hO v1 v2 I0 J0 R0 z6 e7) ⟨rfl, rfl, Nat.le_of_ble_eq_true rfl, Nat.le_of_ble_eq_true rfl⟩ rfl hl.1 (Nat.le_of_ble_eq_true rfl) ⟨Nat.zero_le _, Nat.zero_le _⟩ dX6_bears_21 (fun H locs hw => ?_)
        refine W.eq (g2 := F0 m 24 ls [.int z6, .int (I0 x3 (v4).toNatClampNeg)]) rfl ?_
        refine lv_icmp_ne (tgt := 40) hx hb dX6_bears_24 (by decide) (fun c8 => ?_) (fun c8 => ?_)
        · replace hf := mF1 c8 hf
          refine lv_iinc (v := (v4 + (1 : Int32))) (lv' := [(4, .int (v4 + (1 : Int32))), (0, .ref (g.2.1 v0)), (1, .int v1), (2, .int v2), (3, .int v3)]) hx hb dX6_bears_40 hl (k := 4) rfl rfl (by decide) rfl (fun ls hl => ?_)
          refine lv_goto (tgt := 3) hx hb dX6_bears_43 (by decide) ?_
          exact ih v0 v1 v2 v3 (v4 + (1 : Int32)) z _ _ _ hf hw (lv_sub hl [1, 2, 3, 4, 0] rfl) kx ko
        · replace hf := mT1 c8 hf
          refine lv_aload_n hx hb dX6_bears_27 rfl (lv_at hl 0 rfl) ?_
          obtain ⟨x9, e10, hf⟩ := mBind hf
          refine mgr B hw flX6_15 rfl h1 e10 dX6_bears_28 ?_
          refine lv_iload hx hb dX6_bears_31 (lv_at hl 4 rfl) ?_
          obtain ⟨h11, hf⟩ := mChk hf
          refine mld1 B hw h11 dX6_bears_33 ?_
          refine lv_iload_n hx hb dX6_bears_34 rfl (lv_at hl 3 rfl) ?_
          refine lv_icmp_ne (tgt := 40) hx hb dX6_bears_35 (by decide) (fun c12 => ?_) (fun c12 => ?_)
          · replace hf := mF1 c12 hf
            refine lv_iinc (v := (v4 + (1 : Int32))) (lv' := [(4, .int (v4 + (1 : Int32))), (0, .ref (g.2.1 v0)), (1, .int v1), (2, .int v2), (3, .int v3)]) hx hb dX6_bears_40 hl (k := 4) rfl rfl (by decide) rfl (fun ls hl => ?_)
            refine lv_goto (tgt := 3) hx hb dX6_bears_43 (by decide) ?_
            exact ih v0 v1 v2 v3 (v4 + (1 : Int32)) z _ _ _ hf hw (lv_sub hl [1, 2, 3, 4, 0] rfl) kx ko
          · replace hf := mT1 c12 hf
            refine lv_iconst (v := (1 : Int32)) hx hb dX6_bears_38 (by decide) ?_
            rw [hQm, ← ko _ (Option.some.inj hf).symm]
            exact mrz (v := true) hx hb hr hlk hw dX6_bears_39
  refine lv_iconst (v := (0 : Int32)) hx hb dX6_bears_0 (by decide) ?_
  refine lv_istore (lv' := [(4, .int (0 : Int32)), (0, .ref (g.2.1 a0)), (1, .int a1), (2, .int a2), (3, .int a3)]) hx hb dX6_bears_1 hl (by decide) rfl (fun ls hl => ?_)
  obtain ⟨z13, e14, hf⟩ := mBind hf
  refine L3 8192 a0 a1 a2 a3 (0 : Int32) z13 _ _ _ e14 hw (lv_sub hl [1, 2, 3, 4, 0] rfl) (fun w15 hw9 H locs ls hw hl => ?_) (fun o ho => ?_)
  · subst hw9
    replace hf := mInr hf
    refine lv_iconst (v := (0 : Int32)) hx hb dX6_bears_46 (by decide) ?_
    rw [hQm, ← Option.some.inj hf]
    exact mrz (v := false) hx hb hr hlk hw dX6_bears_47
  · subst ho
    exact Option.some.inj (mInl hf)
def f_X6_personsOn_L5 (K : mK) (v0 : Nat) (v1 : Int32) (v2 : Int32) (I0 : mI) (J0 : mJ) (R0 : mR) : Nat → Int32 → Int32 → Option Int32
  | 0, _, _ => none
  | N + 1, v3, v4 =>
  if K v0 = (0, 6) then
  if (I0 v0 2) ≤ v4 then
  some v3
  else
  (R0 v0 0).bind fun x3 =>
  if mIx K x3 1 v4 then
  (f_X6_pairOf K v1 v2 I0 J0 R0).bind fun z6 =>
  if (I0 x3 (v4).toNatClampNeg) = z6 then
  f_X6_personsOn_L5 K v0 v1 v2 I0 J0 R0 N (v3 + (1 : Int32)) (v4 + (1 : Int32))
  else
  f_X6_personsOn_L5 K v0 v1 v2 I0 J0 R0 N v3 (v4 + (1 : Int32))
  else none
  else none
def f_X6_personsOn (K : mK) (a0 : Nat) (a1 : Int32) (a2 : Int32) (I0 : mI) (J0 : mJ) (R0 : mR) : Option Int32 :=
  (f_X6_personsOn_L5 K a0 a1 a2 I0 J0 R0 8192 (0 : Int32) (0 : Int32)).bind fun z9 =>
  some z9
set_option maxHeartbeats 4000000 in
set_option maxRecDepth 100000 in
theorem r_X6_personsOn (l : Launch) (g : mG) (K : mK) (n : Nat) (hJ : mInj g n) (hO : mOk K n) (a0 : Nat) (a1 : Int32) (a2 : Int32) (I0 : mI) (J0 : mJ) (R0 : mR) (out : Int32) (hf : f_X6_personsOn K a0 a1 a2 I0 J0 R0 = some out) : Met l yX6_personsOn (mWs yX6_personsOn cX6_personsOn 5 (some .int)) ({ frames := 1, cells := 0, slots := 0, locals := 21 }) (va_Pc [.ref (g.2.1 a0), .int a1, .int a2] (mB g K n I0 J0 R0)) (mQ g K n (some (.int out)) I0 J0 R0) 0 0 (mA g n) := by
  unfold f_X6_personsOn at hf
  refine mStart RX6 hJ hO (by decide) rfl (Nat.le_of_ble_eq_true rfl) ?_
  intro p e s m below meth c ls Qm hQm B hr hlk hw hl
  have hx := B.1.1
  have hb := B.1.2.1
  have hl : lv_has ls 5 [(0, .ref (g.2.1 a0)), (1, .int a1), (2, .int a2)] := hl
  have L5 : ∀ (N : Nat) (v0 : Nat) (v1 : Int32) (v2 : Int32) (v3 : Int32) (v4 : Int32) (z : Int32) (H : Heap) (locs : List Loc) (ls : Array Slot), f_X6_personsOn_L5 K v0 v1 v2 I0 J0 R0 N v3 v4 = some z → mHp g K n s I0 J0 R0 H locs → lv_has ls 5 [(0, .ref (g.2.1 v0)), (1, .int v1), (2, .int v2), (3, .int v3), (4, .int v4)] → (∀ (H : Heap) (locs : List Loc) (ls : Array Slot), mHp g K n s I0 J0 R0 H locs → lv_has ls 5 [(3, .int z)] → W p l e ({ frames := 1, cells := 0, slots := 0, locals := 21 } : Room) s m ([.ref (g.2.1 a0), .int a1, .int a2] : List Value).toArray below meth c H locs 0 0 Qm (F0 m 38 ls [])) → W p l e ({ frames := 1, cells := 0, slots := 0, locals := 21 } : Room) s m ([.ref (g.2.1 a0), .int a1, .int a2] : List Value).toArray below meth c H locs 0 0 Qm (F0 m 5 ls []) := by
    intro N
    induction N with
    | zero =>
      intro v0 v1 v2 v3 v4  z H locs ls hf hw hl kx
      rw [f_X6_personsOn_L5] at hf
      cases hf
    | succ N ih =>
      intro v0 v1 v2 v3 v4  z H locs ls hf hw hl kx
      rw [f_X6_personsOn_L5] at hf
      refine lv_iload hx hb dX6_personsOn_5 (lv_at hl 4 rfl) ?_
      refine lv_aload_n hx hb dX6_personsOn_7 rfl (lv_at hl 0 rfl) ?_
      obtain ⟨h1, hf⟩ := mChk hf
      refine mgi B hw flX6_18 rfl h1 dX6_personsOn_8 ?_
      refine lv_icmp_ge (tgt := 38) hx hb dX6_personsOn_11 (by decide) (fun c2 => ?_) (fun c2 => ?_)
      · replace hf := mT1 c2 hf
        obtain rfl := Option.some.inj hf
        exact kx _ _ _ hw (lv_sub hl [3] rfl)
      · replace hf := mF1 c2 hf
        refine lv_aload_n hx hb dX6_personsOn_14 rfl (lv_at hl 0 rfl) ?_
        obtain ⟨x3, e4, hf⟩ := mBind hf
        refine mgr B hw flX6_9 rfl h1 e4 dX6_personsOn_15 ?_
        refine lv_iload hx hb dX6_personsOn_18 (lv_at hl 4 rfl) ?_
        obtain ⟨h5, hf⟩ := mChk hf
        refine mld1 B hw h5 dX6_personsOn_20 ?_
        refine lv_iload_n hx hb dX6_personsOn_21 rfl (lv_at hl 1 rfl) ?_
        refine lv_iload_n hx hb dX6_personsOn_22 rfl (lv_at hl 2 rfl) ?_
        obtain ⟨z6, e7, hf⟩ := mBind hf
        refine mcallS (rest := [.int (I0 x3 (v4).toNatClampNeg)]) B hw [.int v1, .int v2] clX6_22 (r_X6_pairOf l g K n hJ hO v1 v2 I0 J0 R0 z6 e7) ⟨rfl, rfl, Nat.le_of_ble_eq_true rfl, Nat.le_of_ble_eq_true rfl⟩ rfl hl.1 (Nat.le_of_ble_eq_true rfl) ⟨Nat.zero_le _, Nat.zero_le _⟩ dX6_personsOn_23 (fun H locs hw => ?_)
        refine W.eq (g2 := F0 m 26 ls [.int z6, .int (I0 x3 (v4).toNatClampNeg)]) rfl ?_
        refine lv_icmp_ne (tgt := 32) hx hb dX6_personsOn_26 (by decide) (fun c8 => ?_) (fun c8 => ?_)
        · replace hf := mF1 c8 hf
          refine lv_iinc (v := (v4 + (1 : Int32))) (lv' := [(4, .int (v4 + (1 : Int32))), (0, .ref (g.2.1 v0)), (1, .int v1), (2, .int v2), (3, .int v3)]) hx hb dX6_personsOn_32 hl (k := 4) rfl rfl (by decide) rfl (fun ls hl => ?_)
          refine lv_goto (tgt := 5) hx hb dX6_personsOn_35 (by decide) ?_
          exact ih v0 v1 v2 v3 (v4 + (1 : Int32)) z _ _ _ hf hw (lv_sub hl [1, 2, 3, 4, 0] rfl) kx
        · replace hf := mT1 c8 hf
          refine lv_iinc (v := (v3 + (1 : Int32))) (lv' := [(3, .int (v3 + (1 : Int32))), (0, .ref (g.2.1 v0)), (1, .int v1), (2, .int v2), (4, .int v4)]) hx hb dX6_personsOn_29 hl (k := 3) rfl rfl (by decide) rfl (fun ls hl => ?_)
          refine lv_iinc (v := (v4 + (1 : Int32))) (lv' := [(4, .int (v4 + (1 : Int32))), (3, .int (v3 + (1 : Int32))), (0, .ref (g.2.1 v0)), (1, .int v1), (2, .int v2)]) hx hb dX6_personsOn_32 hl (k := 4) rfl rfl (by decide) rfl (fun ls hl => ?_)
          refine lv_goto (tgt := 5) hx hb dX6_personsOn_35 (by decide) ?_
          exact ih v0 v1 v2 (v3 + (1 : Int32)) (v4 + (1 : Int32)) z _ _ _ hf hw (lv_sub hl [2, 3, 4, 1, 0] rfl) kx
  refine lv_iconst (v := (0 : Int32)) hx hb dX6_personsOn_0 (by decide) ?_
  refine lv_istore_n (lv' := [(3, .int (0 : Int32)), (0, .ref (g.2.1 a0)), (1, .int a1), (2, .int a2)]) hx hb dX6_personsOn_1 rfl hl (by decide) rfl (fun ls hl => ?_)
  refine lv_iconst (v := (0 : Int32)) hx hb dX6_personsOn_2 (by decide) ?_
  refine lv_istore (lv' := [(4, .int (0 : Int32)), (3, .int (0 : Int32)), (0, .ref (g.2.1 a0)), (1, .int a1), (2, .int a2)]) hx hb dX6_personsOn_3 hl (by decide) rfl (fun ls hl => ?_)
  obtain ⟨z9, e10, hf⟩ := mBind hf
  refine L5 8192 a0 a1 a2 (0 : Int32) (0 : Int32) z9 _ _ _ e10 hw (lv_sub hl [2, 3, 4, 1, 0] rfl) (fun H locs ls hw hl => ?_)
  refine lv_iload_n hx hb dX6_personsOn_38 rfl (lv_at hl 0 rfl) ?_
  rw [hQm, ← Option.some.inj hf]
  exact mri hx hb hr hlk hw dX6_personsOn_39
def f_X6_put (K : mK) (a0 : Nat) (a1 : Int32) (a2 : Int32) (a3 : Int32) (I0 : mI) (J0 : mJ) (R0 : mR) : Option (Bool × mI) :=
  if K a0 = (0, 6) then
  if (I0 a0 2) < (60 : Int32) then
  (R0 a0 0).bind fun x3 =>
  (f_X6_pairOf K a1 a2 I0 J0 R0).bind fun z5 =>
  if mIx K x3 1 (I0 a0 2) then
  (some (mup I0 x3 ((I0 a0 2)).toNatClampNeg z5)).bind fun I8 =>
  (R0 a0 1).bind fun x10 =>
  if mIx K x10 1 (I8 a0 2) then
  (some (mup I8 x10 ((I8 a0 2)).toNatClampNeg a3)).bind fun I13 =>
  (some (mup I13 a0 2 ((I13 a0 2) + (1 : Int32)))).bind fun I15 =>
  some (true, I15)
  else none
  else none
  else
  some (false, I0)
  else none
set_option maxHeartbeats 4000000 in
set_option maxRecDepth 100000 in
theorem r_X6_put (l : Launch) (g : mG) (K : mK) (n : Nat) (hJ : mInj g n) (hO : mOk K n) (a0 : Nat) (a1 : Int32) (a2 : Int32) (a3 : Int32) (I0 : mI) (J0 : mJ) (R0 : mR) (out : (Bool × mI)) (hf : f_X6_put K a0 a1 a2 a3 I0 J0 R0 = some out) : Met l yX6_put (mWs yX6_put cX6_put 4 (some .boolean)) ({ frames := 1, cells := 0, slots := 0, locals := 21 }) (va_Pc [.ref (g.2.1 a0), .int a1, .int a2, .int a3] (mB g K n I0 J0 R0)) (mQ g K n (some (.int (mb out.1))) out.2 J0 R0) 0 0 (mA g n) := by
  unfold f_X6_put at hf
  refine mStart RX6 hJ hO (by decide) rfl (Nat.le_of_ble_eq_true rfl) ?_
  intro p e s m below meth c ls Qm hQm B hr hlk hw hl
  have hx := B.1.1
  have hb := B.1.2.1
  have hl : lv_has ls 4 [(0, .ref (g.2.1 a0)), (1, .int a1), (2, .int a2), (3, .int a3)] := hl
  refine lv_aload_n hx hb dX6_put_0 rfl (lv_at hl 0 rfl) ?_
  obtain ⟨h1, hf⟩ := mChk hf
  refine mgi B hw flX6_18 rfl h1 dX6_put_1 ?_
  refine lv_bipush (v := (60 : Int32)) hx hb dX6_put_4 (by decide) ?_
  refine lv_icmp_lt (tgt := 11) hx hb dX6_put_6 (by decide) (fun c2 => ?_) (fun c2 => ?_)
  · replace hf := mT1 c2 hf
    refine lv_aload_n hx hb dX6_put_11 rfl (lv_at hl 0 rfl) ?_
    obtain ⟨x3, e4, hf⟩ := mBind hf
    refine mgr B hw flX6_9 rfl h1 e4 dX6_put_12 ?_
    refine lv_aload_n hx hb dX6_put_15 rfl (lv_at hl 0 rfl) ?_
    refine mgi B hw flX6_18 rfl h1 dX6_put_16 ?_
    refine lv_iload_n hx hb dX6_put_19 rfl (lv_at hl 1 rfl) ?_
    refine lv_iload_n hx hb dX6_put_20 rfl (lv_at hl 2 rfl) ?_
    obtain ⟨z5, e6, hf⟩ := mBind hf
    refine mcallS (rest := [.int (I0 a0 2), .ref (g.2.1 x3)]) B hw [.int a1, .int a2] clX6_22 (r_X6_pairOf l g K n hJ hO a1 a2 I0 J0 R0 z5 e6) ⟨rfl, rfl, Nat.le_of_ble_eq_true rfl, Nat.le_of_ble_eq_true rfl⟩ rfl hl.1 (Nat.le_of_ble_eq_true rfl) ⟨Nat.zero_le _, Nat.zero_le _⟩ dX6_put_21 (fun H locs hw => ?_)
    refine W.eq (g2 := F0 m 24 ls [.int z5, .int (I0 a0 2), .ref (g.2.1 x3)]) rfl ?_
    obtain ⟨h7, hf⟩ := mChk hf
    obtain ⟨I8, e9, hf⟩ := mLet hf
    refine mst1 B hw h7 dX6_put_24 (fun H locs hw => ?_)
    rw [← e9] at hw
    refine lv_aload_n hx hb dX6_put_25 rfl (lv_at hl 0 rfl) ?_
    obtain ⟨x10, e11, hf⟩ := mBind hf
    refine mgr B hw flX6_15 rfl h1 e11 dX6_put_26 ?_
    refine lv_aload_n hx hb dX6_put_29 rfl (lv_at hl 0 rfl) ?_
    refine mgi B hw flX6_18 rfl h1 dX6_put_30 ?_
    refine lv_iload_n hx hb dX6_put_33 rfl (lv_at hl 3 rfl) ?_
    obtain ⟨h12, hf⟩ := mChk hf
    obtain ⟨I13, e14, hf⟩ := mLet hf
    refine mst1 B hw h12 dX6_put_34 (fun H locs hw => ?_)
    rw [← e14] at hw
    refine lv_aload_n hx hb dX6_put_35 rfl (lv_at hl 0 rfl) ?_
    refine lv_dup hx hb dX6_put_36 rfl ?_
    refine mgi B hw flX6_18 rfl h1 dX6_put_37 ?_
    refine lv_iconst (v := (1 : Int32)) hx hb dX6_put_40 (by decide) ?_
    refine lv_iadd hx hb dX6_put_41 ?_
    obtain ⟨I15, e16, hf⟩ := mLet hf
    refine mpi B hw puX6_18 rfl h1 dX6_put_42 (fun H locs hw => ?_)
    rw [← e16] at hw
    refine lv_iconst (v := (1 : Int32)) hx hb dX6_put_45 (by decide) ?_
    rw [hQm, ← Option.some.inj hf]
    exact mrz (v := true) hx hb hr hlk hw dX6_put_46
  · replace hf := mF1 c2 hf
    refine lv_iconst (v := (0 : Int32)) hx hb dX6_put_9 (by decide) ?_
    rw [hQm, ← Option.some.inj hf]
    exact mrz (v := false) hx hb hr hlk hw dX6_put_10
def f_X7_hasRoomFor (K : mK) (a0 : Nat) (a1 : Int32) (I0 : mI) (J0 : mJ) (R0 : mR) : Option Bool :=
  if K a0 = (0, 7) then
  if (500 : Int32) < ((I0 a0 1) + a1) then
  some false
  else
  some true
  else none
set_option maxHeartbeats 4000000 in
set_option maxRecDepth 100000 in
theorem r_X7_hasRoomFor (l : Launch) (g : mG) (K : mK) (n : Nat) (hJ : mInj g n) (hO : mOk K n) (a0 : Nat) (a1 : Int32) (I0 : mI) (J0 : mJ) (R0 : mR) (out : Bool) (hf : f_X7_hasRoomFor K a0 a1 I0 J0 R0 = some out) : Met l yX7_hasRoomFor (mWs yX7_hasRoomFor cX7_hasRoomFor 2 (some .boolean)) ({ frames := 0, cells := 0, slots := 0, locals := 0 }) (va_Pc [.ref (g.2.1 a0), .int a1] (mB g K n I0 J0 R0)) (mQ g K n (some (.int (mb out))) I0 J0 R0) 0 0 (mA g n) := by
  unfold f_X7_hasRoomFor at hf
  refine mStart RX7 hJ hO (by decide) rfl (Nat.le_of_ble_eq_true rfl) ?_
  intro p e s m below meth c ls Qm hQm B hr hlk hw hl
  have hx := B.1.1
  have hb := B.1.2.1
  have hl : lv_has ls 2 [(0, .ref (g.2.1 a0)), (1, .int a1)] := hl
  refine lv_aload_n hx hb dX7_hasRoomFor_0 rfl (lv_at hl 0 rfl) ?_
  obtain ⟨h1, hf⟩ := mChk hf
  refine mgi B hw flX7_15 rfl h1 dX7_hasRoomFor_1 ?_
  refine lv_iload_n hx hb dX7_hasRoomFor_4 rfl (lv_at hl 1 rfl) ?_
  refine lv_iadd hx hb dX7_hasRoomFor_5 ?_
  refine lv_sipush (v := (500 : Int32)) hx hb dX7_hasRoomFor_6 (by decide) ?_
  refine lv_icmp_gt (tgt := 16) hx hb dX7_hasRoomFor_9 (by decide) (fun c2 => ?_) (fun c2 => ?_)
  · replace hf := mT1 c2 hf
    refine lv_iconst (v := (0 : Int32)) hx hb dX7_hasRoomFor_16 (by decide) ?_
    rw [hQm, ← Option.some.inj hf]
    exact mrz (v := false) hx hb hr hlk hw dX7_hasRoomFor_17
  · replace hf := mF1 c2 hf
    refine lv_iconst (v := (1 : Int32)) hx hb dX7_hasRoomFor_12 (by decide) ?_
    refine lv_goto (tgt := 17) hx hb dX7_hasRoomFor_13 (by decide) ?_
    rw [hQm, ← Option.some.inj hf]
    exact mrz (v := true) hx hb hr hlk hw dX7_hasRoomFor_17
def f_X7_put_L3 (K : mK) (v0 : Nat) (v1 : Int32) (J0 : mJ) (R0 : mR) : Nat → Int32 → mI → Option mI
  | 0, _, _ => none
  | N + 1, v2, I =>
  if v2 < 0 then
  some I
  else
  if K v0 = (0, 7) then
  if (500 : Int32) ≤ (I v0 1) then
  some I
  else
  (R0 v0 0).bind fun x4 =>
  if mIx K x4 2 (I v0 1) then
  (some (mup I x4 ((I v0 1)).toNatClampNeg (((v1 >>> (v2 &&& 31))).toInt8.toInt32).toInt8.toInt32)).bind fun I7 =>
  (some (mup I7 v0 1 ((I7 v0 1) + (1 : Int32)))).bind fun I9 =>
  f_X7_put_L3 K v0 v1 J0 R0 N (v2 + (-8 : Int32)) I9
  else none
  else none
def f_X7_put (K : mK) (a0 : Nat) (a1 : Int32) (I0 : mI) (J0 : mJ) (R0 : mR) : Option mI :=
  (f_X7_put_L3 K a0 a1 J0 R0 8192 (24 : Int32) I0).bind fun z11 =>
  some z11
set_option maxHeartbeats 4000000 in
set_option maxRecDepth 100000 in
theorem r_X7_put (l : Launch) (g : mG) (K : mK) (n : Nat) (hJ : mInj g n) (hO : mOk K n) (a0 : Nat) (a1 : Int32) (I0 : mI) (J0 : mJ) (R0 : mR) (out : mI) (hf : f_X7_put K a0 a1 I0 J0 R0 = some out) : Met l yX7_put (mWs yX7_put cX7_put 3 none) ({ frames := 0, cells := 0, slots := 0, locals := 0 }) (va_Pc [.ref (g.2.1 a0), .int a1] (mB g K n I0 J0 R0)) (mQ g K n none out J0 R0) 0 0 (mA g n) := by
  unfold f_X7_put at hf
  refine mStart RX7 hJ hO (by decide) rfl (Nat.le_of_ble_eq_true rfl) ?_
  intro p e s m below meth c ls Qm hQm B hr hlk hw hl
  have hx := B.1.1
  have hb := B.1.2.1
  have hl : lv_has ls 3 [(0, .ref (g.2.1 a0)), (1, .int a1)] := hl
  have L3 : ∀ (N : Nat) (v0 : Nat) (v1 : Int32) (v2 : Int32) (I : mI) (z : mI) (H : Heap) (locs : List Loc) (ls : Array Slot), f_X7_put_L3 K v0 v1 J0 R0 N v2 I = some z → mHp g K n s I J0 R0 H locs → lv_has ls 3 [(0, .ref (g.2.1 v0)), (1, .int v1), (2, .int v2)] → (∀ (H : Heap) (locs : List Loc) (ls : Array Slot), mHp g K n s z J0 R0 H locs → lv_has ls 3 [] → W p l e ({ frames := 0, cells := 0, slots := 0, locals := 0 } : Room) s m ([.ref (g.2.1 a0), .int a1] : List Value).toArray below meth c H locs 0 0 Qm (F0 m 46 ls [])) → W p l e ({ frames := 0, cells := 0, slots := 0, locals := 0 } : Room) s m ([.ref (g.2.1 a0), .int a1] : List Value).toArray below meth c H locs 0 0 Qm (F0 m 3 ls []) := by
    intro N
    induction N with
    | zero =>
      intro v0 v1 v2 I z H locs ls hf hw hl kx
      rw [f_X7_put_L3] at hf
      cases hf
    | succ N ih =>
      intro v0 v1 v2 I z H locs ls hf hw hl kx
      rw [f_X7_put_L3] at hf
      refine lv_iload_n hx hb dX7_put_3 rfl (lv_at hl 2 rfl) ?_
      refine lv_if_lt (tgt := 46) hx hb dX7_put_4 (by decide) (fun c1 => ?_) (fun c1 => ?_)
      · replace hf := mT1 c1 hf
        obtain rfl := Option.some.inj hf
        exact kx _ _ _ hw (lv_sub hl [] rfl)
      · replace hf := mF1 c1 hf
        refine lv_aload_n hx hb dX7_put_7 rfl (lv_at hl 0 rfl) ?_
        obtain ⟨h2, hf⟩ := mChk hf
        refine mgi B hw flX7_15 rfl h2 dX7_put_8 ?_
        refine lv_sipush (v := (500 : Int32)) hx hb dX7_put_11 (by decide) ?_
        refine lv_icmp_ge (tgt := 46) hx hb dX7_put_14 (by decide) (fun c3 => ?_) (fun c3 => ?_)
        · replace hf := mT1 c3 hf
          obtain rfl := Option.some.inj hf
          exact kx _ _ _ hw (lv_sub hl [] rfl)
        · replace hf := mF1 c3 hf
          refine lv_aload_n hx hb dX7_put_17 rfl (lv_at hl 0 rfl) ?_
          obtain ⟨x4, e5, hf⟩ := mBind hf
          refine mgr B hw flX7_9 rfl h2 e5 dX7_put_18 ?_
          refine lv_aload_n hx hb dX7_put_21 rfl (lv_at hl 0 rfl) ?_
          refine mgi B hw flX7_15 rfl h2 dX7_put_22 ?_
          refine lv_iload_n hx hb dX7_put_25 rfl (lv_at hl 1 rfl) ?_
          refine lv_iload_n hx hb dX7_put_26 rfl (lv_at hl 2 rfl) ?_
          refine lv_ishr hx hb dX7_put_27 ?_
          refine lv_i2b hx hb dX7_put_28 rfl ?_
          obtain ⟨h6, hf⟩ := mChk hf
          obtain ⟨I7, e8, hf⟩ := mLet hf
          refine mst2 B hw h6 dX7_put_29 (fun H locs hw => ?_)
          rw [← e8] at hw
          refine lv_aload_n hx hb dX7_put_30 rfl (lv_at hl 0 rfl) ?_
          refine lv_dup hx hb dX7_put_31 rfl ?_
          refine mgi B hw flX7_15 rfl h2 dX7_put_32 ?_
          refine lv_iconst (v := (1 : Int32)) hx hb dX7_put_35 (by decide) ?_
          refine lv_iadd hx hb dX7_put_36 ?_
          obtain ⟨I9, e10, hf⟩ := mLet hf
          refine mpi B hw puX7_15 rfl h2 dX7_put_37 (fun H locs hw => ?_)
          rw [← e10] at hw
          refine lv_iinc (v := (v2 + (-8 : Int32))) (lv' := [(2, .int (v2 + (-8 : Int32))), (0, .ref (g.2.1 v0)), (1, .int v1)]) hx hb dX7_put_40 hl (k := 2) rfl rfl (by decide) rfl (fun ls hl => ?_)
          refine lv_goto (tgt := 3) hx hb dX7_put_43 (by decide) ?_
          exact ih v0 v1 (v2 + (-8 : Int32)) I9 z _ _ _ hf hw (lv_sub hl [1, 2, 0] rfl) kx
  refine lv_bipush (v := (24 : Int32)) hx hb dX7_put_0 (by decide) ?_
  refine lv_istore_n (lv' := [(2, .int (24 : Int32)), (0, .ref (g.2.1 a0)), (1, .int a1)]) hx hb dX7_put_2 rfl hl (by decide) rfl (fun ls hl => ?_)
  obtain ⟨z11, e12, hf⟩ := mBind hf
  refine L3 8192 a0 a1 (24 : Int32) I0 z11 _ _ _ e12 hw (lv_sub hl [1, 2, 0] rfl) (fun H locs ls hw hl => ?_)
  rw [hQm, ← Option.some.inj hf]
  exact mrv hx hb hr hlk hw dX7_put_46
def f_X8_file (K : mK) (a0 : Nat) (a1 : Int32) (I0 : mI) (J0 : mJ) (R0 : mR) : Option (Int32 × mI) :=
  if a1 = 0 then
  if K a0 = (0, 8) then
  (R0 a0 0).bind fun x13 =>
  if K x13 = (0, 2) then
  (f_X2_open K x13 I0 J0 R0).bind fun z16 =>
  some (z16.1, z16.2)
  else none
  else none
  else
  if a1 = (1 : Int32) then
  if K a0 = (0, 8) then
  (R0 a0 1).bind fun x4 =>
  if K x4 = (0, 0) then
  (R0 x4 0).bind fun x7 =>
  if K x7 = (0, 2) then
  (f_X2_open K x7 I0 J0 R0).bind fun z10 =>
  some (z10.1, z10.2)
  else none
  else none
  else none
  else
  some ((-1 : Int32), I0)
set_option maxHeartbeats 4000000 in
set_option maxRecDepth 100000 in
theorem r_X8_file (l : Launch) (g : mG) (K : mK) (n : Nat) (hJ : mInj g n) (hO : mOk K n) (a0 : Nat) (a1 : Int32) (I0 : mI) (J0 : mJ) (R0 : mR) (out : (Int32 × mI)) (hf : f_X8_file K a0 a1 I0 J0 R0 = some out) : Met l yX8_file (mWs yX8_file cX8_file 2 (some .int)) ({ frames := 1, cells := 0, slots := 0, locals := 20 }) (va_Pc [.ref (g.2.1 a0), .int a1] (mB g K n I0 J0 R0)) (mQ g K n (some (.int out.1)) out.2 J0 R0) 0 0 (mA g n) := by
  unfold f_X8_file at hf
  refine mStart RX8 hJ hO (by decide) rfl (Nat.le_of_ble_eq_true rfl) ?_
  intro p e s m below meth c ls Qm hQm B hr hlk hw hl
  have hx := B.1.1
  have hb := B.1.2.1
  have hl : lv_has ls 2 [(0, .ref (g.2.1 a0)), (1, .int a1)] := hl
  refine lv_iload_n hx hb dX8_file_0 rfl (lv_at hl 1 rfl) ?_
  refine lv_if_ne (tgt := 12) hx hb dX8_file_1 (by decide) (fun c1 => ?_) (fun c1 => ?_)
  · replace hf := mF1 c1 hf
    refine lv_iload_n hx hb dX8_file_12 rfl (lv_at hl 1 rfl) ?_
    refine lv_iconst (v := (1 : Int32)) hx hb dX8_file_13 (by decide) ?_
    refine lv_icmp_ne (tgt := 28) hx hb dX8_file_14 (by decide) (fun c2 => ?_) (fun c2 => ?_)
    · replace hf := mF1 c2 hf
      refine lv_iconst (v := (-1 : Int32)) hx hb dX8_file_28 (by decide) ?_
      rw [hQm, ← Option.some.inj hf]
      exact mri hx hb hr hlk hw dX8_file_29
    · replace hf := mT1 c2 hf
      refine lv_aload_n hx hb dX8_file_17 rfl (lv_at hl 0 rfl) ?_
      obtain ⟨h3, hf⟩ := mChk hf
      obtain ⟨x4, e5, hf⟩ := mBind hf
      refine mgr B hw flX8_19 rfl h3 e5 dX8_file_18 ?_
      obtain ⟨h6, hf⟩ := mChk hf
      obtain ⟨x7, e8, hf⟩ := mBind hf
      refine mgr B hw flX8_75 rfl h6 e8 dX8_file_21 ?_
      obtain ⟨h9, hf⟩ := mChk hf
      obtain ⟨z10, e11, hf⟩ := mBind hf
      refine mcallV (rest := []) (ci := 2) B hw [] clX8_71 rfl h9 (r_X2_open l g K n hJ hO x7 I0 J0 R0 z10 e11) ⟨rfl, rfl, Nat.le_of_ble_eq_true rfl, Nat.le_of_ble_eq_true rfl⟩ rfl hl.1 (Nat.le_of_ble_eq_true rfl) ⟨Nat.zero_le _, Nat.zero_le _⟩ dX8_file_24 (fun H locs hw => ?_)
      refine W.eq (g2 := F0 m 27 ls [.int z10.1]) rfl ?_
      rw [hQm, ← Option.some.inj hf]
      exact mri hx hb hr hlk hw dX8_file_27
  · replace hf := mT1 c1 hf
    refine lv_aload_n hx hb dX8_file_4 rfl (lv_at hl 0 rfl) ?_
    obtain ⟨h12, hf⟩ := mChk hf
    obtain ⟨x13, e14, hf⟩ := mBind hf
    refine mgr B hw flX8_10 rfl h12 e14 dX8_file_5 ?_
    obtain ⟨h15, hf⟩ := mChk hf
    obtain ⟨z16, e17, hf⟩ := mBind hf
    refine mcallV (rest := []) (ci := 2) B hw [] clX8_71 rfl h15 (r_X2_open l g K n hJ hO x13 I0 J0 R0 z16 e17) ⟨rfl, rfl, Nat.le_of_ble_eq_true rfl, Nat.le_of_ble_eq_true rfl⟩ rfl hl.1 (Nat.le_of_ble_eq_true rfl) ⟨Nat.zero_le _, Nat.zero_le _⟩ dX8_file_8 (fun H locs hw => ?_)
    refine W.eq (g2 := F0 m 11 ls [.int z16.1]) rfl ?_
    rw [hQm, ← Option.some.inj hf]
    exact mri hx hb hr hlk hw dX8_file_11
def f_X8_cardOf (K : mK) (a0 : Nat) (a1 : Int32) (a2 : Int32) (I0 : mI) (J0 : mJ) (R0 : mR) : Option (Option Nat) :=
  if a1 = 0 then
  if K a0 = (0, 8) then
  (R0 a0 0).bind fun x13 =>
  if K x13 = (0, 2) then
  (f_X2_find K x13 a2 I0 J0 R0).bind fun z16 =>
  some z16
  else none
  else none
  else
  if a1 = (1 : Int32) then
  if K a0 = (0, 8) then
  (R0 a0 1).bind fun x4 =>
  if K x4 = (0, 0) then
  (R0 x4 0).bind fun x7 =>
  if K x7 = (0, 2) then
  (f_X2_find K x7 a2 I0 J0 R0).bind fun z10 =>
  some z10
  else none
  else none
  else none
  else
  some none
set_option maxHeartbeats 4000000 in
set_option maxRecDepth 100000 in
theorem r_X8_cardOf (l : Launch) (g : mG) (K : mK) (n : Nat) (hJ : mInj g n) (hO : mOk K n) (a0 : Nat) (a1 : Int32) (a2 : Int32) (I0 : mI) (J0 : mJ) (R0 : mR) (out : (Option Nat)) (hf : f_X8_cardOf K a0 a1 a2 I0 J0 R0 = some out) : Met l yX8_cardOf (mWs yX8_cardOf cX8_cardOf 3 (some (.object "NamedAgain$Card"))) ({ frames := 1, cells := 0, slots := 0, locals := 21 }) (va_Pc [.ref (g.2.1 a0), .int a1, .int a2] (mB g K n I0 J0 R0)) (mQ g K n (some (va_rf (Option.map g.2.1 out))) I0 J0 R0) 0 0 (mA g n) := by
  unfold f_X8_cardOf at hf
  refine mStart RX8 hJ hO (by decide) rfl (Nat.le_of_ble_eq_true rfl) ?_
  intro p e s m below meth c ls Qm hQm B hr hlk hw hl
  have hx := B.1.1
  have hb := B.1.2.1
  have hl : lv_has ls 3 [(0, .ref (g.2.1 a0)), (1, .int a1), (2, .int a2)] := hl
  refine lv_iload_n hx hb dX8_cardOf_0 rfl (lv_at hl 1 rfl) ?_
  refine lv_if_ne (tgt := 13) hx hb dX8_cardOf_1 (by decide) (fun c1 => ?_) (fun c1 => ?_)
  · replace hf := mF1 c1 hf
    refine lv_iload_n hx hb dX8_cardOf_13 rfl (lv_at hl 1 rfl) ?_
    refine lv_iconst (v := (1 : Int32)) hx hb dX8_cardOf_14 (by decide) ?_
    refine lv_icmp_ne (tgt := 30) hx hb dX8_cardOf_15 (by decide) (fun c2 => ?_) (fun c2 => ?_)
    · replace hf := mF1 c2 hf
      refine lv_null hx hb dX8_cardOf_30 ?_
      rw [hQm, ← Option.some.inj hf]
      exact mra (v := none) hx hb hr hlk hw dX8_cardOf_31
    · replace hf := mT1 c2 hf
      refine lv_aload_n hx hb dX8_cardOf_18 rfl (lv_at hl 0 rfl) ?_
      obtain ⟨h3, hf⟩ := mChk hf
      obtain ⟨x4, e5, hf⟩ := mBind hf
      refine mgr B hw flX8_19 rfl h3 e5 dX8_cardOf_19 ?_
      obtain ⟨h6, hf⟩ := mChk hf
      obtain ⟨x7, e8, hf⟩ := mBind hf
      refine mgr B hw flX8_75 rfl h6 e8 dX8_cardOf_22 ?_
      refine lv_iload_n hx hb dX8_cardOf_25 rfl (lv_at hl 2 rfl) ?_
      obtain ⟨h9, hf⟩ := mChk hf
      obtain ⟨z10, e11, hf⟩ := mBind hf
      refine mcallV (rest := []) (ci := 2) B hw [.int a2] clX8_118 rfl h9 (r_X2_find l g K n hJ hO x7 a2 I0 J0 R0 z10 e11) ⟨rfl, rfl, Nat.le_of_ble_eq_true rfl, Nat.le_of_ble_eq_true rfl⟩ rfl hl.1 (Nat.le_of_ble_eq_true rfl) ⟨Nat.zero_le _, Nat.zero_le _⟩ dX8_cardOf_26 (fun H locs hw => ?_)
      refine W.eq (g2 := F0 m 29 ls [va_rf (Option.map g.2.1 z10)]) rfl ?_
      rw [hQm, ← Option.some.inj hf]
      exact mra (v := z10) hx hb hr hlk hw dX8_cardOf_29
  · replace hf := mT1 c1 hf
    refine lv_aload_n hx hb dX8_cardOf_4 rfl (lv_at hl 0 rfl) ?_
    obtain ⟨h12, hf⟩ := mChk hf
    obtain ⟨x13, e14, hf⟩ := mBind hf
    refine mgr B hw flX8_10 rfl h12 e14 dX8_cardOf_5 ?_
    refine lv_iload_n hx hb dX8_cardOf_8 rfl (lv_at hl 2 rfl) ?_
    obtain ⟨h15, hf⟩ := mChk hf
    obtain ⟨z16, e17, hf⟩ := mBind hf
    refine mcallV (rest := []) (ci := 2) B hw [.int a2] clX8_118 rfl h15 (r_X2_find l g K n hJ hO x13 a2 I0 J0 R0 z16 e17) ⟨rfl, rfl, Nat.le_of_ble_eq_true rfl, Nat.le_of_ble_eq_true rfl⟩ rfl hl.1 (Nat.le_of_ble_eq_true rfl) ⟨Nat.zero_le _, Nat.zero_le _⟩ dX8_cardOf_9 (fun H locs hw => ?_)
    refine W.eq (g2 := F0 m 12 ls [va_rf (Option.map g.2.1 z16)]) rfl ?_
    rw [hQm, ← Option.some.inj hf]
    exact mra (v := z16) hx hb hr hlk hw dX8_cardOf_12
def f_X8_sex (K : mK) (a0 : Nat) (a1 : Int32) (a2 : Int32) (a3 : Int32) (I0 : mI) (J0 : mJ) (R0 : mR) : Option (Bool × mI) :=
  if K a0 = (0, 8) then
  (f_X8_cardOf K a0 a1 a2 I0 J0 R0).bind fun z2 =>
  mON z2 (
  some (false, I0)) (fun x4 =>
  (f_X8_within K a3 (0 : Int32) (2 : Int32) I0 J0 R0).bind fun z5 =>
  if (mb z5) = 0 then
  some (false, I0)
  else
  if K x4 = (0, 1) then
  (some (mup I0 x4 0 a3)).bind fun I9 =>
  some (true, I9)
  else none)
  else none
set_option maxHeartbeats 4000000 in
set_option maxRecDepth 100000 in
theorem r_X8_sex (l : Launch) (g : mG) (K : mK) (n : Nat) (hJ : mInj g n) (hO : mOk K n) (a0 : Nat) (a1 : Int32) (a2 : Int32) (a3 : Int32) (I0 : mI) (J0 : mJ) (R0 : mR) (out : (Bool × mI)) (hf : f_X8_sex K a0 a1 a2 a3 I0 J0 R0 = some out) : Met l yX8_sex (mWs yX8_sex cX8_sex 5 (some .boolean)) ({ frames := 2, cells := 0, slots := 0, locals := 43 }) (va_Pc [.ref (g.2.1 a0), .int a1, .int a2, .int a3] (mB g K n I0 J0 R0)) (mQ g K n (some (.int (mb out.1))) out.2 J0 R0) 0 0 (mA g n) := by
  unfold f_X8_sex at hf
  refine mStart RX8 hJ hO (by decide) rfl (Nat.le_of_ble_eq_true rfl) ?_
  intro p e s m below meth c ls Qm hQm B hr hlk hw hl
  have hx := B.1.1
  have hb := B.1.2.1
  have hl : lv_has ls 5 [(0, .ref (g.2.1 a0)), (1, .int a1), (2, .int a2), (3, .int a3)] := hl
  refine lv_aload_n hx hb dX8_sex_0 rfl (lv_at hl 0 rfl) ?_
  refine lv_iload_n hx hb dX8_sex_1 rfl (lv_at hl 1 rfl) ?_
  refine lv_iload_n hx hb dX8_sex_2 rfl (lv_at hl 2 rfl) ?_
  obtain ⟨h1, hf⟩ := mChk hf
  obtain ⟨z2, e3, hf⟩ := mBind hf
  refine mcallV (rest := []) (ci := 8) B hw [.int a1, .int a2] clX8_78 rfl h1 (r_X8_cardOf l g K n hJ hO a0 a1 a2 I0 J0 R0 z2 e3) ⟨rfl, rfl, Nat.le_of_ble_eq_true rfl, Nat.le_of_ble_eq_true rfl⟩ rfl hl.1 (Nat.le_of_ble_eq_true rfl) ⟨Nat.zero_le _, Nat.zero_le _⟩ dX8_sex_3 (fun H locs hw => ?_)
  refine W.eq (g2 := F0 m 6 ls [va_rf (Option.map g.2.1 z2)]) rfl ?_
  refine mso (lv' := [(4, va_rf (Option.map g.2.1 z2)), (0, .ref (g.2.1 a0)), (1, .int a1), (2, .int a2), (3, .int a3)]) hx hb dX8_sex_6 hl (by decide) rfl (fun ls hl => ?_)
  refine mlo hx hb dX8_sex_8 (lv_at hl 0 rfl) ?_
  rcases z2 with _ | x4
  · replace hf := mON0 hf
    replace hl : lv_has ls 5 [(4, .null), (0, .ref (g.2.1 a0)), (1, .int a1), (2, .int a2), (3, .int a3)] := hl
    refine W.eq (g2 := F0 m 10 ls [.null]) rfl ?_
    refine lv_ifnullN (tgt := 22) hx hb dX8_sex_10 (by decide) ?_
    refine lv_iconst (v := (0 : Int32)) hx hb dX8_sex_22 (by decide) ?_
    rw [hQm, ← Option.some.inj hf]
    exact mrz (v := false) hx hb hr hlk hw dX8_sex_23
  · replace hf := mON1 hf
    replace hl : lv_has ls 5 [(4, .ref (g.2.1 x4)), (0, .ref (g.2.1 a0)), (1, .int a1), (2, .int a2), (3, .int a3)] := hl
    refine W.eq (g2 := F0 m 10 ls [.ref (g.2.1 x4)]) rfl ?_
    refine lv_ifnull hx hb dX8_sex_10 ?_
    refine lv_iload_n hx hb dX8_sex_13 rfl (lv_at hl 4 rfl) ?_
    refine lv_iconst (v := (0 : Int32)) hx hb dX8_sex_14 (by decide) ?_
    refine lv_iconst (v := (2 : Int32)) hx hb dX8_sex_15 (by decide) ?_
    obtain ⟨z5, e6, hf⟩ := mBind hf
    refine mcallS (rest := []) B hw [.int a3, .int (0 : Int32), .int (2 : Int32)] clX8_82 (r_X8_within l g K n hJ hO a3 (0 : Int32) (2 : Int32) I0 J0 R0 z5 e6) ⟨rfl, rfl, Nat.le_of_ble_eq_true rfl, Nat.le_of_ble_eq_true rfl⟩ rfl hl.1 (Nat.le_of_ble_eq_true rfl) ⟨Nat.zero_le _, Nat.zero_le _⟩ dX8_sex_16 (fun H locs hw => ?_)
    refine W.eq (g2 := F0 m 19 ls [.int (mb z5)]) rfl ?_
    refine lv_if_ne (tgt := 24) hx hb dX8_sex_19 (by decide) (fun c7 => ?_) (fun c7 => ?_)
    · replace hf := mF1 c7 hf
      refine lv_aload hx hb dX8_sex_24 (lv_at hl 0 rfl) ?_
      refine lv_iload_n hx hb dX8_sex_26 rfl (lv_at hl 4 rfl) ?_
      obtain ⟨h8, hf⟩ := mChk hf
      obtain ⟨I9, e10, hf⟩ := mLet hf
      refine mpi B hw puX8_86 rfl h8 dX8_sex_27 (fun H locs hw => ?_)
      rw [← e10] at hw
      refine lv_iconst (v := (1 : Int32)) hx hb dX8_sex_30 (by decide) ?_
      rw [hQm, ← Option.some.inj hf]
      exact mrz (v := true) hx hb hr hlk hw dX8_sex_31
    · replace hf := mT1 c7 hf
      refine lv_iconst (v := (0 : Int32)) hx hb dX8_sex_22 (by decide) ?_
      rw [hQm, ← Option.some.inj hf]
      exact mrz (v := false) hx hb hr hlk hw dX8_sex_23
def f_X8_age (K : mK) (a0 : Nat) (a1 : Int32) (a2 : Int32) (a3 : Int32) (a4 : Int32) (I0 : mI) (J0 : mJ) (R0 : mR) : Option (Bool × mI) :=
  if K a0 = (0, 8) then
  (f_X8_cardOf K a0 a1 a2 I0 J0 R0).bind fun z2 =>
  mON z2 (
  some (false, I0)) (fun x4 =>
  if a3 < 0 then
  some (false, I0)
  else
  if a4 < a3 then
  some (false, I0)
  else
  if a4 ≤ (120 : Int32) then
  if K x4 = (0, 1) then
  (some (mup I0 x4 1 a3)).bind fun I9 =>
  (some (mup I9 x4 2 a4)).bind fun I11 =>
  some (true, I11)
  else none
  else
  some (false, I0))
  else none
set_option maxHeartbeats 4000000 in
set_option maxRecDepth 100000 in
theorem r_X8_age (l : Launch) (g : mG) (K : mK) (n : Nat) (hJ : mInj g n) (hO : mOk K n) (a0 : Nat) (a1 : Int32) (a2 : Int32) (a3 : Int32) (a4 : Int32) (I0 : mI) (J0 : mJ) (R0 : mR) (out : (Bool × mI)) (hf : f_X8_age K a0 a1 a2 a3 a4 I0 J0 R0 = some out) : Met l yX8_age (mWs yX8_age cX8_age 6 (some .boolean)) ({ frames := 2, cells := 0, slots := 0, locals := 43 }) (va_Pc [.ref (g.2.1 a0), .int a1, .int a2, .int a3, .int a4] (mB g K n I0 J0 R0)) (mQ g K n (some (.int (mb out.1))) out.2 J0 R0) 0 0 (mA g n) := by
  unfold f_X8_age at hf
  refine mStart RX8 hJ hO (by decide) rfl (Nat.le_of_ble_eq_true rfl) ?_
  intro p e s m below meth c ls Qm hQm B hr hlk hw hl
  have hx := B.1.1
  have hb := B.1.2.1
  have hl : lv_has ls 6 [(0, .ref (g.2.1 a0)), (1, .int a1), (2, .int a2), (3, .int a3), (4, .int a4)] := hl
  refine lv_aload_n hx hb dX8_age_0 rfl (lv_at hl 0 rfl) ?_
  refine lv_iload_n hx hb dX8_age_1 rfl (lv_at hl 1 rfl) ?_
  refine lv_iload_n hx hb dX8_age_2 rfl (lv_at hl 2 rfl) ?_
  obtain ⟨h1, hf⟩ := mChk hf
  obtain ⟨z2, e3, hf⟩ := mBind hf
  refine mcallV (rest := []) (ci := 8) B hw [.int a1, .int a2] clX8_78 rfl h1 (r_X8_cardOf l g K n hJ hO a0 a1 a2 I0 J0 R0 z2 e3) ⟨rfl, rfl, Nat.le_of_ble_eq_true rfl, Nat.le_of_ble_eq_true rfl⟩ rfl hl.1 (Nat.le_of_ble_eq_true rfl) ⟨Nat.zero_le _, Nat.zero_le _⟩ dX8_age_3 (fun H locs hw => ?_)
  refine W.eq (g2 := F0 m 6 ls [va_rf (Option.map g.2.1 z2)]) rfl ?_
  refine mso (lv' := [(5, va_rf (Option.map g.2.1 z2)), (0, .ref (g.2.1 a0)), (1, .int a1), (2, .int a2), (3, .int a3), (4, .int a4)]) hx hb dX8_age_6 hl (by decide) rfl (fun ls hl => ?_)
  refine mlo hx hb dX8_age_8 (lv_at hl 0 rfl) ?_
  rcases z2 with _ | x4
  · replace hf := mON0 hf
    replace hl : lv_has ls 6 [(5, .null), (0, .ref (g.2.1 a0)), (1, .int a1), (2, .int a2), (3, .int a3), (4, .int a4)] := hl
    refine W.eq (g2 := F0 m 10 ls [.null]) rfl ?_
    refine lv_ifnullN (tgt := 30) hx hb dX8_age_10 (by decide) ?_
    refine lv_iconst (v := (0 : Int32)) hx hb dX8_age_30 (by decide) ?_
    rw [hQm, ← Option.some.inj hf]
    exact mrz (v := false) hx hb hr hlk hw dX8_age_31
  · replace hf := mON1 hf
    replace hl : lv_has ls 6 [(5, .ref (g.2.1 x4)), (0, .ref (g.2.1 a0)), (1, .int a1), (2, .int a2), (3, .int a3), (4, .int a4)] := hl
    refine W.eq (g2 := F0 m 10 ls [.ref (g.2.1 x4)]) rfl ?_
    refine lv_ifnull hx hb dX8_age_10 ?_
    refine lv_iload_n hx hb dX8_age_13 rfl (lv_at hl 4 rfl) ?_
    refine lv_if_lt (tgt := 30) hx hb dX8_age_14 (by decide) (fun c5 => ?_) (fun c5 => ?_)
    · replace hf := mT1 c5 hf
      refine lv_iconst (v := (0 : Int32)) hx hb dX8_age_30 (by decide) ?_
      rw [hQm, ← Option.some.inj hf]
      exact mrz (v := false) hx hb hr hlk hw dX8_age_31
    · replace hf := mF1 c5 hf
      refine lv_iload_n hx hb dX8_age_17 rfl (lv_at hl 4 rfl) ?_
      refine lv_iload hx hb dX8_age_18 (lv_at hl 5 rfl) ?_
      refine lv_icmp_gt (tgt := 30) hx hb dX8_age_20 (by decide) (fun c6 => ?_) (fun c6 => ?_)
      · replace hf := mT1 c6 hf
        refine lv_iconst (v := (0 : Int32)) hx hb dX8_age_30 (by decide) ?_
        rw [hQm, ← Option.some.inj hf]
        exact mrz (v := false) hx hb hr hlk hw dX8_age_31
      · replace hf := mF1 c6 hf
        refine lv_iload hx hb dX8_age_23 (lv_at hl 5 rfl) ?_
        refine lv_bipush (v := (120 : Int32)) hx hb dX8_age_25 (by decide) ?_
        refine lv_icmp_le (tgt := 32) hx hb dX8_age_27 (by decide) (fun c7 => ?_) (fun c7 => ?_)
        · replace hf := mT1 c7 hf
          refine lv_aload hx hb dX8_age_32 (lv_at hl 0 rfl) ?_
          refine lv_iload_n hx hb dX8_age_34 rfl (lv_at hl 4 rfl) ?_
          obtain ⟨h8, hf⟩ := mChk hf
          obtain ⟨I9, e10, hf⟩ := mLet hf
          refine mpi B hw puX8_90 rfl h8 dX8_age_35 (fun H locs hw => ?_)
          rw [← e10] at hw
          refine lv_aload hx hb dX8_age_38 (lv_at hl 0 rfl) ?_
          refine lv_iload hx hb dX8_age_40 (lv_at hl 5 rfl) ?_
          obtain ⟨I11, e12, hf⟩ := mLet hf
          refine mpi B hw puX8_93 rfl h8 dX8_age_42 (fun H locs hw => ?_)
          rw [← e12] at hw
          refine lv_iconst (v := (1 : Int32)) hx hb dX8_age_45 (by decide) ?_
          rw [hQm, ← Option.some.inj hf]
          exact mrz (v := true) hx hb hr hlk hw dX8_age_46
        · replace hf := mF1 c7 hf
          refine lv_iconst (v := (0 : Int32)) hx hb dX8_age_30 (by decide) ?_
          rw [hQm, ← Option.some.inj hf]
          exact mrz (v := false) hx hb hr hlk hw dX8_age_31
def f_X8_tooth (K : mK) (a0 : Nat) (a1 : Int32) (a2 : Int32) (a3 : Int32) (a4 : Int32) (I0 : mI) (J0 : mJ) (R0 : mR) : Option (Bool × mI) :=
  if K a0 = (0, 8) then
  (f_X8_cardOf K a0 a1 a2 I0 J0 R0).bind fun z2 =>
  mON z2 (
  some (false, I0)) (fun x4 =>
  (f_X8_within K a3 (0 : Int32) (7 : Int32) I0 J0 R0).bind fun z5 =>
  if (mb z5) = 0 then
  some (false, I0)
  else
  (f_X8_within K a4 (0 : Int32) (3 : Int32) I0 J0 R0).bind fun z8 =>
  if (mb z8) = 0 then
  some (false, I0)
  else
  if K x4 = (0, 1) then
  (R0 x4 4).bind fun x12 =>
  if mIx K x12 1 a3 then
  (some (mup I0 x12 (a3).toNatClampNeg a4)).bind fun I15 =>
  some (true, I15)
  else none
  else none)
  else none
set_option maxHeartbeats 4000000 in
set_option maxRecDepth 100000 in
theorem r_X8_tooth (l : Launch) (g : mG) (K : mK) (n : Nat) (hJ : mInj g n) (hO : mOk K n) (a0 : Nat) (a1 : Int32) (a2 : Int32) (a3 : Int32) (a4 : Int32) (I0 : mI) (J0 : mJ) (R0 : mR) (out : (Bool × mI)) (hf : f_X8_tooth K a0 a1 a2 a3 a4 I0 J0 R0 = some out) : Met l yX8_tooth (mWs yX8_tooth cX8_tooth 6 (some .boolean)) ({ frames := 2, cells := 0, slots := 0, locals := 43 }) (va_Pc [.ref (g.2.1 a0), .int a1, .int a2, .int a3, .int a4] (mB g K n I0 J0 R0)) (mQ g K n (some (.int (mb out.1))) out.2 J0 R0) 0 0 (mA g n) := by
  unfold f_X8_tooth at hf
  refine mStart RX8 hJ hO (by decide) rfl (Nat.le_of_ble_eq_true rfl) ?_
  intro p e s m below meth c ls Qm hQm B hr hlk hw hl
  have hx := B.1.1
  have hb := B.1.2.1
  have hl : lv_has ls 6 [(0, .ref (g.2.1 a0)), (1, .int a1), (2, .int a2), (3, .int a3), (4, .int a4)] := hl
  refine lv_aload_n hx hb dX8_tooth_0 rfl (lv_at hl 0 rfl) ?_
  refine lv_iload_n hx hb dX8_tooth_1 rfl (lv_at hl 1 rfl) ?_
  refine lv_iload_n hx hb dX8_tooth_2 rfl (lv_at hl 2 rfl) ?_
  obtain ⟨h1, hf⟩ := mChk hf
  obtain ⟨z2, e3, hf⟩ := mBind hf
  refine mcallV (rest := []) (ci := 8) B hw [.int a1, .int a2] clX8_78 rfl h1 (r_X8_cardOf l g K n hJ hO a0 a1 a2 I0 J0 R0 z2 e3) ⟨rfl, rfl, Nat.le_of_ble_eq_true rfl, Nat.le_of_ble_eq_true rfl⟩ rfl hl.1 (Nat.le_of_ble_eq_true rfl) ⟨Nat.zero_le _, Nat.zero_le _⟩ dX8_tooth_3 (fun H locs hw => ?_)
  refine W.eq (g2 := F0 m 6 ls [va_rf (Option.map g.2.1 z2)]) rfl ?_
  refine mso (lv' := [(5, va_rf (Option.map g.2.1 z2)), (0, .ref (g.2.1 a0)), (1, .int a1), (2, .int a2), (3, .int a3), (4, .int a4)]) hx hb dX8_tooth_6 hl (by decide) rfl (fun ls hl => ?_)
  refine mlo hx hb dX8_tooth_8 (lv_at hl 0 rfl) ?_
  rcases z2 with _ | x4
  · replace hf := mON0 hf
    replace hl : lv_has ls 6 [(5, .null), (0, .ref (g.2.1 a0)), (1, .int a1), (2, .int a2), (3, .int a3), (4, .int a4)] := hl
    refine W.eq (g2 := F0 m 10 ls [.null]) rfl ?_
    refine lv_ifnullN (tgt := 33) hx hb dX8_tooth_10 (by decide) ?_
    refine lv_iconst (v := (0 : Int32)) hx hb dX8_tooth_33 (by decide) ?_
    rw [hQm, ← Option.some.inj hf]
    exact mrz (v := false) hx hb hr hlk hw dX8_tooth_34
  · replace hf := mON1 hf
    replace hl : lv_has ls 6 [(5, .ref (g.2.1 x4)), (0, .ref (g.2.1 a0)), (1, .int a1), (2, .int a2), (3, .int a3), (4, .int a4)] := hl
    refine W.eq (g2 := F0 m 10 ls [.ref (g.2.1 x4)]) rfl ?_
    refine lv_ifnull hx hb dX8_tooth_10 ?_
    refine lv_iload_n hx hb dX8_tooth_13 rfl (lv_at hl 4 rfl) ?_
    refine lv_iconst (v := (0 : Int32)) hx hb dX8_tooth_14 (by decide) ?_
    refine lv_bipush (v := (7 : Int32)) hx hb dX8_tooth_15 (by decide) ?_
    obtain ⟨z5, e6, hf⟩ := mBind hf
    refine mcallS (rest := []) B hw [.int a3, .int (0 : Int32), .int (7 : Int32)] clX8_82 (r_X8_within l g K n hJ hO a3 (0 : Int32) (7 : Int32) I0 J0 R0 z5 e6) ⟨rfl, rfl, Nat.le_of_ble_eq_true rfl, Nat.le_of_ble_eq_true rfl⟩ rfl hl.1 (Nat.le_of_ble_eq_true rfl) ⟨Nat.zero_le _, Nat.zero_le _⟩ dX8_tooth_17 (fun H locs hw => ?_)
    refine W.eq (g2 := F0 m 20 ls [.int (mb z5)]) rfl ?_
    refine lv_if_eq (tgt := 33) hx hb dX8_tooth_20 (by decide) (fun c7 => ?_) (fun c7 => ?_)
    · replace hf := mT1 c7 hf
      refine lv_iconst (v := (0 : Int32)) hx hb dX8_tooth_33 (by decide) ?_
      rw [hQm, ← Option.some.inj hf]
      exact mrz (v := false) hx hb hr hlk hw dX8_tooth_34
    · replace hf := mF1 c7 hf
      refine lv_iload hx hb dX8_tooth_23 (lv_at hl 5 rfl) ?_
      refine lv_iconst (v := (0 : Int32)) hx hb dX8_tooth_25 (by decide) ?_
      refine lv_iconst (v := (3 : Int32)) hx hb dX8_tooth_26 (by decide) ?_
      obtain ⟨z8, e9, hf⟩ := mBind hf
      refine mcallS (rest := []) B hw [.int a4, .int (0 : Int32), .int (3 : Int32)] clX8_82 (r_X8_within l g K n hJ hO a4 (0 : Int32) (3 : Int32) I0 J0 R0 z8 e9) ⟨rfl, rfl, Nat.le_of_ble_eq_true rfl, Nat.le_of_ble_eq_true rfl⟩ rfl hl.1 (Nat.le_of_ble_eq_true rfl) ⟨Nat.zero_le _, Nat.zero_le _⟩ dX8_tooth_27 (fun H locs hw => ?_)
      refine W.eq (g2 := F0 m 30 ls [.int (mb z8)]) rfl ?_
      refine lv_if_ne (tgt := 35) hx hb dX8_tooth_30 (by decide) (fun c10 => ?_) (fun c10 => ?_)
      · replace hf := mF1 c10 hf
        refine lv_aload hx hb dX8_tooth_35 (lv_at hl 0 rfl) ?_
        obtain ⟨h11, hf⟩ := mChk hf
        obtain ⟨x12, e13, hf⟩ := mBind hf
        refine mgr B hw flX8_96 rfl h11 e13 dX8_tooth_37 ?_
        refine lv_iload_n hx hb dX8_tooth_40 rfl (lv_at hl 4 rfl) ?_
        refine lv_iload hx hb dX8_tooth_41 (lv_at hl 5 rfl) ?_
        obtain ⟨h14, hf⟩ := mChk hf
        obtain ⟨I15, e16, hf⟩ := mLet hf
        refine mst1 B hw h14 dX8_tooth_43 (fun H locs hw => ?_)
        rw [← e16] at hw
        refine lv_iconst (v := (1 : Int32)) hx hb dX8_tooth_44 (by decide) ?_
        rw [hQm, ← Option.some.inj hf]
        exact mrz (v := true) hx hb hr hlk hw dX8_tooth_45
      · replace hf := mT1 c10 hf
        refine lv_iconst (v := (0 : Int32)) hx hb dX8_tooth_33 (by decide) ?_
        rw [hQm, ← Option.some.inj hf]
        exact mrz (v := false) hx hb hr hlk hw dX8_tooth_34
def f_X8_mark (K : mK) (a0 : Nat) (a1 : Int32) (a2 : Int32) (a3 : Int32) (a4 : Int32) (I0 : mI) (J0 : mJ) (R0 : mR) : Option (Bool × mI) :=
  if K a0 = (0, 8) then
  (f_X8_cardOf K a0 a1 a2 I0 J0 R0).bind fun z2 =>
  mON z2 (
  some (false, I0)) (fun x4 =>
  (f_X8_within K a3 (0 : Int32) (3 : Int32) I0 J0 R0).bind fun z5 =>
  if (mb z5) = 0 then
  some (false, I0)
  else
  (f_X8_within K a4 (0 : Int32) (9 : Int32) I0 J0 R0).bind fun z8 =>
  if (mb z8) = 0 then
  some (false, I0)
  else
  if K x4 = (0, 1) then
  (R0 x4 5).bind fun x12 =>
  if mIx K x12 1 a3 then
  (some (mup I0 x12 (a3).toNatClampNeg a4)).bind fun I15 =>
  some (true, I15)
  else none
  else none)
  else none
set_option maxHeartbeats 4000000 in
set_option maxRecDepth 100000 in
theorem r_X8_mark (l : Launch) (g : mG) (K : mK) (n : Nat) (hJ : mInj g n) (hO : mOk K n) (a0 : Nat) (a1 : Int32) (a2 : Int32) (a3 : Int32) (a4 : Int32) (I0 : mI) (J0 : mJ) (R0 : mR) (out : (Bool × mI)) (hf : f_X8_mark K a0 a1 a2 a3 a4 I0 J0 R0 = some out) : Met l yX8_mark (mWs yX8_mark cX8_mark 6 (some .boolean)) ({ frames := 2, cells := 0, slots := 0, locals := 43 }) (va_Pc [.ref (g.2.1 a0), .int a1, .int a2, .int a3, .int a4] (mB g K n I0 J0 R0)) (mQ g K n (some (.int (mb out.1))) out.2 J0 R0) 0 0 (mA g n) := by
  unfold f_X8_mark at hf
  refine mStart RX8 hJ hO (by decide) rfl (Nat.le_of_ble_eq_true rfl) ?_
  intro p e s m below meth c ls Qm hQm B hr hlk hw hl
  have hx := B.1.1
  have hb := B.1.2.1
  have hl : lv_has ls 6 [(0, .ref (g.2.1 a0)), (1, .int a1), (2, .int a2), (3, .int a3), (4, .int a4)] := hl
  refine lv_aload_n hx hb dX8_mark_0 rfl (lv_at hl 0 rfl) ?_
  refine lv_iload_n hx hb dX8_mark_1 rfl (lv_at hl 1 rfl) ?_
  refine lv_iload_n hx hb dX8_mark_2 rfl (lv_at hl 2 rfl) ?_
  obtain ⟨h1, hf⟩ := mChk hf
  obtain ⟨z2, e3, hf⟩ := mBind hf
  refine mcallV (rest := []) (ci := 8) B hw [.int a1, .int a2] clX8_78 rfl h1 (r_X8_cardOf l g K n hJ hO a0 a1 a2 I0 J0 R0 z2 e3) ⟨rfl, rfl, Nat.le_of_ble_eq_true rfl, Nat.le_of_ble_eq_true rfl⟩ rfl hl.1 (Nat.le_of_ble_eq_true rfl) ⟨Nat.zero_le _, Nat.zero_le _⟩ dX8_mark_3 (fun H locs hw => ?_)
  refine W.eq (g2 := F0 m 6 ls [va_rf (Option.map g.2.1 z2)]) rfl ?_
  refine mso (lv' := [(5, va_rf (Option.map g.2.1 z2)), (0, .ref (g.2.1 a0)), (1, .int a1), (2, .int a2), (3, .int a3), (4, .int a4)]) hx hb dX8_mark_6 hl (by decide) rfl (fun ls hl => ?_)
  refine mlo hx hb dX8_mark_8 (lv_at hl 0 rfl) ?_
  rcases z2 with _ | x4
  · replace hf := mON0 hf
    replace hl : lv_has ls 6 [(5, .null), (0, .ref (g.2.1 a0)), (1, .int a1), (2, .int a2), (3, .int a3), (4, .int a4)] := hl
    refine W.eq (g2 := F0 m 10 ls [.null]) rfl ?_
    refine lv_ifnullN (tgt := 33) hx hb dX8_mark_10 (by decide) ?_
    refine lv_iconst (v := (0 : Int32)) hx hb dX8_mark_33 (by decide) ?_
    rw [hQm, ← Option.some.inj hf]
    exact mrz (v := false) hx hb hr hlk hw dX8_mark_34
  · replace hf := mON1 hf
    replace hl : lv_has ls 6 [(5, .ref (g.2.1 x4)), (0, .ref (g.2.1 a0)), (1, .int a1), (2, .int a2), (3, .int a3), (4, .int a4)] := hl
    refine W.eq (g2 := F0 m 10 ls [.ref (g.2.1 x4)]) rfl ?_
    refine lv_ifnull hx hb dX8_mark_10 ?_
    refine lv_iload_n hx hb dX8_mark_13 rfl (lv_at hl 4 rfl) ?_
    refine lv_iconst (v := (0 : Int32)) hx hb dX8_mark_14 (by decide) ?_
    refine lv_iconst (v := (3 : Int32)) hx hb dX8_mark_15 (by decide) ?_
    obtain ⟨z5, e6, hf⟩ := mBind hf
    refine mcallS (rest := []) B hw [.int a3, .int (0 : Int32), .int (3 : Int32)] clX8_82 (r_X8_within l g K n hJ hO a3 (0 : Int32) (3 : Int32) I0 J0 R0 z5 e6) ⟨rfl, rfl, Nat.le_of_ble_eq_true rfl, Nat.le_of_ble_eq_true rfl⟩ rfl hl.1 (Nat.le_of_ble_eq_true rfl) ⟨Nat.zero_le _, Nat.zero_le _⟩ dX8_mark_16 (fun H locs hw => ?_)
    refine W.eq (g2 := F0 m 19 ls [.int (mb z5)]) rfl ?_
    refine lv_if_eq (tgt := 33) hx hb dX8_mark_19 (by decide) (fun c7 => ?_) (fun c7 => ?_)
    · replace hf := mT1 c7 hf
      refine lv_iconst (v := (0 : Int32)) hx hb dX8_mark_33 (by decide) ?_
      rw [hQm, ← Option.some.inj hf]
      exact mrz (v := false) hx hb hr hlk hw dX8_mark_34
    · replace hf := mF1 c7 hf
      refine lv_iload hx hb dX8_mark_22 (lv_at hl 5 rfl) ?_
      refine lv_iconst (v := (0 : Int32)) hx hb dX8_mark_24 (by decide) ?_
      refine lv_bipush (v := (9 : Int32)) hx hb dX8_mark_25 (by decide) ?_
      obtain ⟨z8, e9, hf⟩ := mBind hf
      refine mcallS (rest := []) B hw [.int a4, .int (0 : Int32), .int (9 : Int32)] clX8_82 (r_X8_within l g K n hJ hO a4 (0 : Int32) (9 : Int32) I0 J0 R0 z8 e9) ⟨rfl, rfl, Nat.le_of_ble_eq_true rfl, Nat.le_of_ble_eq_true rfl⟩ rfl hl.1 (Nat.le_of_ble_eq_true rfl) ⟨Nat.zero_le _, Nat.zero_le _⟩ dX8_mark_27 (fun H locs hw => ?_)
      refine W.eq (g2 := F0 m 30 ls [.int (mb z8)]) rfl ?_
      refine lv_if_ne (tgt := 35) hx hb dX8_mark_30 (by decide) (fun c10 => ?_) (fun c10 => ?_)
      · replace hf := mF1 c10 hf
        refine lv_aload hx hb dX8_mark_35 (lv_at hl 0 rfl) ?_
        obtain ⟨h11, hf⟩ := mChk hf
        obtain ⟨x12, e13, hf⟩ := mBind hf
        refine mgr B hw flX8_100 rfl h11 e13 dX8_mark_37 ?_
        refine lv_iload_n hx hb dX8_mark_40 rfl (lv_at hl 4 rfl) ?_
        refine lv_iload hx hb dX8_mark_41 (lv_at hl 5 rfl) ?_
        obtain ⟨h14, hf⟩ := mChk hf
        obtain ⟨I15, e16, hf⟩ := mLet hf
        refine mst1 B hw h14 dX8_mark_43 (fun H locs hw => ?_)
        rw [← e16] at hw
        refine lv_iconst (v := (1 : Int32)) hx hb dX8_mark_44 (by decide) ?_
        rw [hQm, ← Option.some.inj hf]
        exact mrz (v := true) hx hb hr hlk hw dX8_mark_45
      · replace hf := mT1 c10 hf
        refine lv_iconst (v := (0 : Int32)) hx hb dX8_mark_33 (by decide) ?_
        rw [hQm, ← Option.some.inj hf]
        exact mrz (v := false) hx hb hr hlk hw dX8_mark_34
def f_X8_tissue (K : mK) (a0 : Nat) (a1 : Int32) (a2 : Int32) (a3 : Int32) (a4 : Int32) (a5 : Int32) (I0 : mI) (J0 : mJ) (R0 : mR) : Option (Bool × mI) :=
  if a1 = (2 : Int32) then
  if K a0 = (0, 8) then
  (f_X8_cardOf K a0 (0 : Int32) a2 I0 J0 R0).bind fun z41 =>
  mON z41 (
  some (false, I0)) (fun x43 =>
  (f_X8_within K a3 (0 : Int32) (2 : Int32) I0 J0 R0).bind fun z44 =>
  if (mb z44) = 0 then
  some (false, I0)
  else
  if a4 = 0 then
  if K x43 = (0, 1) then
  (R0 x43 7).bind fun x50 =>
  if a4 = 0 then
  if mIx K x50 1 a3 then
  (some (mup I0 x50 (a3).toNatClampNeg (0 : Int32))).bind fun I57 =>
  some (true, I57)
  else none
  else
  if mIx K x50 1 a3 then
  (some (mup I0 x50 (a3).toNatClampNeg (((10 : Int32) * (imin a4 a5)) + (imax a4 a5)))).bind fun I54 =>
  some (true, I54)
  else none
  else none
  else
  (f_X8_within K a4 (1 : Int32) (9 : Int32) I0 J0 R0).bind fun z59 =>
  if (mb z59) = 0 then
  some (false, I0)
  else
  (f_X8_within K a5 (1 : Int32) (9 : Int32) I0 J0 R0).bind fun z62 =>
  if (mb z62) = 0 then
  some (false, I0)
  else
  if K x43 = (0, 1) then
  (R0 x43 7).bind fun x67 =>
  if a4 = 0 then
  if mIx K x67 1 a3 then
  (some (mup I0 x67 (a3).toNatClampNeg (0 : Int32))).bind fun I74 =>
  some (true, I74)
  else none
  else
  if mIx K x67 1 a3 then
  (some (mup I0 x67 (a3).toNatClampNeg (((10 : Int32) * (imin a4 a5)) + (imax a4 a5)))).bind fun I71 =>
  some (true, I71)
  else none
  else none)
  else none
  else
  if K a0 = (0, 8) then
  (f_X8_cardOf K a0 a1 a2 I0 J0 R0).bind fun z4 =>
  mON z4 (
  some (false, I0)) (fun x6 =>
  (f_X8_within K a3 (0 : Int32) (2 : Int32) I0 J0 R0).bind fun z7 =>
  if (mb z7) = 0 then
  some (false, I0)
  else
  if a4 = 0 then
  if K x6 = (0, 1) then
  (R0 x6 6).bind fun x13 =>
  if a4 = 0 then
  if mIx K x13 1 a3 then
  (some (mup I0 x13 (a3).toNatClampNeg (0 : Int32))).bind fun I20 =>
  some (true, I20)
  else none
  else
  if mIx K x13 1 a3 then
  (some (mup I0 x13 (a3).toNatClampNeg (((10 : Int32) * (imin a4 a5)) + (imax a4 a5)))).bind fun I17 =>
  some (true, I17)
  else none
  else none
  else
  (f_X8_within K a4 (1 : Int32) (9 : Int32) I0 J0 R0).bind fun z22 =>
  if (mb z22) = 0 then
  some (false, I0)
  else
  (f_X8_within K a5 (1 : Int32) (9 : Int32) I0 J0 R0).bind fun z25 =>
  if (mb z25) = 0 then
  some (false, I0)
  else
  if K x6 = (0, 1) then
  (R0 x6 6).bind fun x30 =>
  if a4 = 0 then
  if mIx K x30 1 a3 then
  (some (mup I0 x30 (a3).toNatClampNeg (0 : Int32))).bind fun I37 =>
  some (true, I37)
  else none
  else
  if mIx K x30 1 a3 then
  (some (mup I0 x30 (a3).toNatClampNeg (((10 : Int32) * (imin a4 a5)) + (imax a4 a5)))).bind fun I34 =>
  some (true, I34)
  else none
  else none)
  else none
set_option maxHeartbeats 4000000 in
set_option maxRecDepth 100000 in
theorem r_X8_tissue (l : Launch) (g : mG) (K : mK) (n : Nat) (hJ : mInj g n) (hO : mOk K n) (a0 : Nat) (a1 : Int32) (a2 : Int32) (a3 : Int32) (a4 : Int32) (a5 : Int32) (I0 : mI) (J0 : mJ) (R0 : mR) (out : (Bool × mI)) (hf : f_X8_tissue K a0 a1 a2 a3 a4 a5 I0 J0 R0 = some out) : Met l yX8_tissue (mWs yX8_tissue cX8_tissue 9 (some .boolean)) ({ frames := 2, cells := 0, slots := 0, locals := 43 }) (va_Pc [.ref (g.2.1 a0), .int a1, .int a2, .int a3, .int a4, .int a5] (mB g K n I0 J0 R0)) (mQ g K n (some (.int (mb out.1))) out.2 J0 R0) 0 0 (mA g n) := by
  unfold f_X8_tissue at hf
  refine mStart RX8 hJ hO (by decide) rfl (Nat.le_of_ble_eq_true rfl) ?_
  intro p e s m below meth c ls Qm hQm B hr hlk hw hl
  have hx := B.1.1
  have hb := B.1.2.1
  have hl : lv_has ls 9 [(0, .ref (g.2.1 a0)), (1, .int a1), (2, .int a2), (3, .int a3), (4, .int a4), (5, .int a5)] := hl
  refine lv_iload_n hx hb dX8_tissue_0 rfl (lv_at hl 1 rfl) ?_
  refine lv_iconst (v := (2 : Int32)) hx hb dX8_tissue_1 (by decide) ?_
  refine lv_icmp_ne (tgt := 9) hx hb dX8_tissue_2 (by decide) (fun c1 => ?_) (fun c1 => ?_)
  · replace hf := mF1 c1 hf
    refine lv_iconst (v := (0 : Int32)) hx hb dX8_tissue_9 (by decide) ?_
    refine lv_istore (lv' := [(6, .int (0 : Int32)), (0, .ref (g.2.1 a0)), (1, .int a1), (2, .int a2), (3, .int a3), (4, .int a4), (5, .int a5)]) hx hb dX8_tissue_10 hl (by decide) rfl (fun ls hl => ?_)
    refine lv_aload_n hx hb dX8_tissue_12 rfl (lv_at hl 1 rfl) ?_
    refine lv_iload hx hb dX8_tissue_13 (lv_at hl 0 rfl) ?_
    refine lv_if_eq (tgt := 22) hx hb dX8_tissue_15 (by decide) (fun _ => ?_) (fun c => absurd (by decide) c)
    refine lv_iload_n hx hb dX8_tissue_22 rfl (lv_at hl 2 rfl) ?_
    refine lv_iload_n hx hb dX8_tissue_23 rfl (lv_at hl 3 rfl) ?_
    obtain ⟨h3, hf⟩ := mChk hf
    obtain ⟨z4, e5, hf⟩ := mBind hf
    refine mcallV (rest := []) (ci := 8) B hw [.int a1, .int a2] clX8_78 rfl h3 (r_X8_cardOf l g K n hJ hO a0 a1 a2 I0 J0 R0 z4 e5) ⟨rfl, rfl, Nat.le_of_ble_eq_true rfl, Nat.le_of_ble_eq_true rfl⟩ rfl hl.1 (Nat.le_of_ble_eq_true rfl) ⟨Nat.zero_le _, Nat.zero_le _⟩ dX8_tissue_24 (fun H locs hw => ?_)
    refine W.eq (g2 := F0 m 27 ls [va_rf (Option.map g.2.1 z4)]) rfl ?_
    refine mso (lv' := [(7, va_rf (Option.map g.2.1 z4)), (6, .int (0 : Int32)), (0, .ref (g.2.1 a0)), (1, .int a1), (2, .int a2), (3, .int a3), (4, .int a4), (5, .int a5)]) hx hb dX8_tissue_27 hl (by decide) rfl (fun ls hl => ?_)
    refine mlo hx hb dX8_tissue_29 (lv_at hl 0 rfl) ?_
    rcases z4 with _ | x6
    · replace hf := mON0 hf
      replace hl : lv_has ls 9 [(7, .null), (6, .int (0 : Int32)), (0, .ref (g.2.1 a0)), (1, .int a1), (2, .int a2), (3, .int a3), (4, .int a4), (5, .int a5)] := hl
      refine W.eq (g2 := F0 m 31 ls [.null]) rfl ?_
      refine lv_ifnullN (tgt := 43) hx hb dX8_tissue_31 (by decide) ?_
      refine lv_iconst (v := (0 : Int32)) hx hb dX8_tissue_43 (by decide) ?_
      rw [hQm, ← Option.some.inj hf]
      exact mrz (v := false) hx hb hr hlk hw dX8_tissue_44
    · replace hf := mON1 hf
      replace hl : lv_has ls 9 [(7, .ref (g.2.1 x6)), (6, .int (0 : Int32)), (0, .ref (g.2.1 a0)), (1, .int a1), (2, .int a2), (3, .int a3), (4, .int a4), (5, .int a5)] := hl
      refine W.eq (g2 := F0 m 31 ls [.ref (g.2.1 x6)]) rfl ?_
      refine lv_ifnull hx hb dX8_tissue_31 ?_
      refine lv_iload_n hx hb dX8_tissue_34 rfl (lv_at hl 5 rfl) ?_
      refine lv_iconst (v := (0 : Int32)) hx hb dX8_tissue_35 (by decide) ?_
      refine lv_iconst (v := (2 : Int32)) hx hb dX8_tissue_36 (by decide) ?_
      obtain ⟨z7, e8, hf⟩ := mBind hf
      refine mcallS (rest := []) B hw [.int a3, .int (0 : Int32), .int (2 : Int32)] clX8_82 (r_X8_within l g K n hJ hO a3 (0 : Int32) (2 : Int32) I0 J0 R0 z7 e8) ⟨rfl, rfl, Nat.le_of_ble_eq_true rfl, Nat.le_of_ble_eq_true rfl⟩ rfl hl.1 (Nat.le_of_ble_eq_true rfl) ⟨Nat.zero_le _, Nat.zero_le _⟩ dX8_tissue_37 (fun H locs hw => ?_)
      refine W.eq (g2 := F0 m 40 ls [.int (mb z7)]) rfl ?_
      refine lv_if_ne (tgt := 45) hx hb dX8_tissue_40 (by decide) (fun c9 => ?_) (fun c9 => ?_)
      · replace hf := mF1 c9 hf
        refine lv_iload hx hb dX8_tissue_45 (lv_at hl 6 rfl) ?_
        refine lv_if_eq (tgt := 74) hx hb dX8_tissue_47 (by decide) (fun c10 => ?_) (fun c10 => ?_)
        · replace hf := mT1 c10 hf
          refine lv_iload hx hb dX8_tissue_74 (lv_at hl 1 rfl) ?_
          refine lv_if_eq (tgt := 87) hx hb dX8_tissue_76 (by decide) (fun _ => ?_) (fun c => absurd (by decide) c)
          refine lv_aload hx hb dX8_tissue_87 (lv_at hl 0 rfl) ?_
          obtain ⟨h12, hf⟩ := mChk hf
          obtain ⟨x13, e14, hf⟩ := mBind hf
          refine mgr B hw flX8_106 rfl h12 e14 dX8_tissue_89 ?_
          refine lv_astore (lv' := [(8, .ref (g.2.1 x13)), (7, .ref (g.2.1 x6)), (6, .int (0 : Int32)), (0, .ref (g.2.1 a0)), (1, .int a1), (2, .int a2), (3, .int a3), (4, .int a4), (5, .int a5)]) hx hb dX8_tissue_92 hl (by decide) rfl (fun ls hl => ?_)
          refine lv_aload hx hb dX8_tissue_94 (lv_at hl 0 rfl) ?_
          refine lv_iload_n hx hb dX8_tissue_96 rfl (lv_at hl 6 rfl) ?_
          refine lv_iload hx hb dX8_tissue_97 (lv_at hl 7 rfl) ?_
          refine lv_if_ne (tgt := 106) hx hb dX8_tissue_99 (by decide) (fun c15 => ?_) (fun c15 => ?_)
          · replace hf := mF1 c15 hf
            refine lv_bipush (v := (10 : Int32)) hx hb dX8_tissue_106 (by decide) ?_
            refine lv_iload hx hb dX8_tissue_108 (lv_at hl 7 rfl) ?_
            refine lv_iload hx hb dX8_tissue_110 (lv_at hl 8 rfl) ?_
            refine mmmin B hl.1 mhX8_109 (Nat.le_of_ble_eq_true rfl) (Nat.le_of_ble_eq_true rfl) (Nat.zero_le _) (Nat.zero_le _) dX8_tissue_112 ?_
            refine lv_imul hx hb dX8_tissue_115 ?_
            refine lv_iload hx hb dX8_tissue_116 (lv_at hl 7 rfl) ?_
            refine lv_iload hx hb dX8_tissue_118 (lv_at hl 8 rfl) ?_
            refine mmmax B hl.1 mhX8_115 (Nat.le_of_ble_eq_true rfl) (Nat.le_of_ble_eq_true rfl) (Nat.zero_le _) (Nat.zero_le _) dX8_tissue_120 ?_
            refine lv_iadd hx hb dX8_tissue_123 ?_
            obtain ⟨h16, hf⟩ := mChk hf
            obtain ⟨I17, e18, hf⟩ := mLet hf
            refine mst1 B hw h16 dX8_tissue_124 (fun H locs hw => ?_)
            rw [← e18] at hw
            refine lv_iconst (v := (1 : Int32)) hx hb dX8_tissue_125 (by decide) ?_
            rw [hQm, ← Option.some.inj hf]
            exact mrz (v := true) hx hb hr hlk hw dX8_tissue_126
          · replace hf := mT1 c15 hf
            refine lv_iconst (v := (0 : Int32)) hx hb dX8_tissue_102 (by decide) ?_
            refine lv_goto (tgt := 124) hx hb dX8_tissue_103 (by decide) ?_
            obtain ⟨h19, hf⟩ := mChk hf
            obtain ⟨I20, e21, hf⟩ := mLet hf
            refine mst1 B hw h19 dX8_tissue_124 (fun H locs hw => ?_)
            rw [← e21] at hw
            refine lv_iconst (v := (1 : Int32)) hx hb dX8_tissue_125 (by decide) ?_
            rw [hQm, ← Option.some.inj hf]
            exact mrz (v := true) hx hb hr hlk hw dX8_tissue_126
        · replace hf := mF1 c10 hf
          refine lv_iload hx hb dX8_tissue_50 (lv_at hl 6 rfl) ?_
          refine lv_iconst (v := (1 : Int32)) hx hb dX8_tissue_52 (by decide) ?_
          refine lv_bipush (v := (9 : Int32)) hx hb dX8_tissue_53 (by decide) ?_
          obtain ⟨z22, e23, hf⟩ := mBind hf
          refine mcallS (rest := []) B hw [.int a4, .int (1 : Int32), .int (9 : Int32)] clX8_82 (r_X8_within l g K n hJ hO a4 (1 : Int32) (9 : Int32) I0 J0 R0 z22 e23) ⟨rfl, rfl, Nat.le_of_ble_eq_true rfl, Nat.le_of_ble_eq_true rfl⟩ rfl hl.1 (Nat.le_of_ble_eq_true rfl) ⟨Nat.zero_le _, Nat.zero_le _⟩ dX8_tissue_55 (fun H locs hw => ?_)
          refine W.eq (g2 := F0 m 58 ls [.int (mb z22)]) rfl ?_
          refine lv_if_eq (tgt := 72) hx hb dX8_tissue_58 (by decide) (fun c24 => ?_) (fun c24 => ?_)
          · replace hf := mT1 c24 hf
            refine lv_iconst (v := (0 : Int32)) hx hb dX8_tissue_72 (by decide) ?_
            rw [hQm, ← Option.some.inj hf]
            exact mrz (v := false) hx hb hr hlk hw dX8_tissue_73
          · replace hf := mF1 c24 hf
            refine lv_iload hx hb dX8_tissue_61 (lv_at hl 7 rfl) ?_
            refine lv_iconst (v := (1 : Int32)) hx hb dX8_tissue_63 (by decide) ?_
            refine lv_bipush (v := (9 : Int32)) hx hb dX8_tissue_64 (by decide) ?_
            obtain ⟨z25, e26, hf⟩ := mBind hf
            refine mcallS (rest := []) B hw [.int a5, .int (1 : Int32), .int (9 : Int32)] clX8_82 (r_X8_within l g K n hJ hO a5 (1 : Int32) (9 : Int32) I0 J0 R0 z25 e26) ⟨rfl, rfl, Nat.le_of_ble_eq_true rfl, Nat.le_of_ble_eq_true rfl⟩ rfl hl.1 (Nat.le_of_ble_eq_true rfl) ⟨Nat.zero_le _, Nat.zero_le _⟩ dX8_tissue_66 (fun H locs hw => ?_)
            refine W.eq (g2 := F0 m 69 ls [.int (mb z25)]) rfl ?_
            refine lv_if_ne (tgt := 74) hx hb dX8_tissue_69 (by decide) (fun c27 => ?_) (fun c27 => ?_)
            · replace hf := mF1 c27 hf
              refine lv_iload hx hb dX8_tissue_74 (lv_at hl 1 rfl) ?_
              refine lv_if_eq (tgt := 87) hx hb dX8_tissue_76 (by decide) (fun _ => ?_) (fun c => absurd (by decide) c)
              refine lv_aload hx hb dX8_tissue_87 (lv_at hl 0 rfl) ?_
              obtain ⟨h29, hf⟩ := mChk hf
              obtain ⟨x30, e31, hf⟩ := mBind hf
              refine mgr B hw flX8_106 rfl h29 e31 dX8_tissue_89 ?_
              refine lv_astore (lv' := [(8, .ref (g.2.1 x30)), (7, .ref (g.2.1 x6)), (6, .int (0 : Int32)), (0, .ref (g.2.1 a0)), (1, .int a1), (2, .int a2), (3, .int a3), (4, .int a4), (5, .int a5)]) hx hb dX8_tissue_92 hl (by decide) rfl (fun ls hl => ?_)
              refine lv_aload hx hb dX8_tissue_94 (lv_at hl 0 rfl) ?_
              refine lv_iload_n hx hb dX8_tissue_96 rfl (lv_at hl 6 rfl) ?_
              refine lv_iload hx hb dX8_tissue_97 (lv_at hl 7 rfl) ?_
              refine lv_if_ne (tgt := 106) hx hb dX8_tissue_99 (by decide) (fun c32 => ?_) (fun c32 => ?_)
              · replace hf := mF1 c32 hf
                refine lv_bipush (v := (10 : Int32)) hx hb dX8_tissue_106 (by decide) ?_
                refine lv_iload hx hb dX8_tissue_108 (lv_at hl 7 rfl) ?_
                refine lv_iload hx hb dX8_tissue_110 (lv_at hl 8 rfl) ?_
                refine mmmin B hl.1 mhX8_109 (Nat.le_of_ble_eq_true rfl) (Nat.le_of_ble_eq_true rfl) (Nat.zero_le _) (Nat.zero_le _) dX8_tissue_112 ?_
                refine lv_imul hx hb dX8_tissue_115 ?_
                refine lv_iload hx hb dX8_tissue_116 (lv_at hl 7 rfl) ?_
                refine lv_iload hx hb dX8_tissue_118 (lv_at hl 8 rfl) ?_
                refine mmmax B hl.1 mhX8_115 (Nat.le_of_ble_eq_true rfl) (Nat.le_of_ble_eq_true rfl) (Nat.zero_le _) (Nat.zero_le _) dX8_tissue_120 ?_
                refine lv_iadd hx hb dX8_tissue_123 ?_
                obtain ⟨h33, hf⟩ := mChk hf
                obtain ⟨I34, e35, hf⟩ := mLet hf
                refine mst1 B hw h33 dX8_tissue_124 (fun H locs hw => ?_)
                rw [← e35] at hw
                refine lv_iconst (v := (1 : Int32)) hx hb dX8_tissue_125 (by decide) ?_
                rw [hQm, ← Option.some.inj hf]
                exact mrz (v := true) hx hb hr hlk hw dX8_tissue_126
              · replace hf := mT1 c32 hf
                refine lv_iconst (v := (0 : Int32)) hx hb dX8_tissue_102 (by decide) ?_
                refine lv_goto (tgt := 124) hx hb dX8_tissue_103 (by decide) ?_
                obtain ⟨h36, hf⟩ := mChk hf
                obtain ⟨I37, e38, hf⟩ := mLet hf
                refine mst1 B hw h36 dX8_tissue_124 (fun H locs hw => ?_)
                rw [← e38] at hw
                refine lv_iconst (v := (1 : Int32)) hx hb dX8_tissue_125 (by decide) ?_
                rw [hQm, ← Option.some.inj hf]
                exact mrz (v := true) hx hb hr hlk hw dX8_tissue_126
            · replace hf := mT1 c27 hf
              refine lv_iconst (v := (0 : Int32)) hx hb dX8_tissue_72 (by decide) ?_
              rw [hQm, ← Option.some.inj hf]
              exact mrz (v := false) hx hb hr hlk hw dX8_tissue_73
      · replace hf := mT1 c9 hf
        refine lv_iconst (v := (0 : Int32)) hx hb dX8_tissue_43 (by decide) ?_
        rw [hQm, ← Option.some.inj hf]
        exact mrz (v := false) hx hb hr hlk hw dX8_tissue_44
  · replace hf := mT1 c1 hf
    refine lv_iconst (v := (1 : Int32)) hx hb dX8_tissue_5 (by decide) ?_
    refine lv_goto (tgt := 10) hx hb dX8_tissue_6 (by decide) ?_
    refine lv_istore (lv' := [(6, .int (1 : Int32)), (0, .ref (g.2.1 a0)), (1, .int a1), (2, .int a2), (3, .int a3), (4, .int a4), (5, .int a5)]) hx hb dX8_tissue_10 hl (by decide) rfl (fun ls hl => ?_)
    refine lv_aload_n hx hb dX8_tissue_12 rfl (lv_at hl 1 rfl) ?_
    refine lv_iload hx hb dX8_tissue_13 (lv_at hl 0 rfl) ?_
    refine lv_if_eq (tgt := 22) hx hb dX8_tissue_15 (by decide) (fun c => absurd c (by decide)) (fun _ => ?_)
    refine lv_iconst (v := (0 : Int32)) hx hb dX8_tissue_18 (by decide) ?_
    refine lv_goto (tgt := 23) hx hb dX8_tissue_19 (by decide) ?_
    refine lv_iload_n hx hb dX8_tissue_23 rfl (lv_at hl 3 rfl) ?_
    obtain ⟨h40, hf⟩ := mChk hf
    obtain ⟨z41, e42, hf⟩ := mBind hf
    refine mcallV (rest := []) (ci := 8) B hw [.int (0 : Int32), .int a2] clX8_78 rfl h40 (r_X8_cardOf l g K n hJ hO a0 (0 : Int32) a2 I0 J0 R0 z41 e42) ⟨rfl, rfl, Nat.le_of_ble_eq_true rfl, Nat.le_of_ble_eq_true rfl⟩ rfl hl.1 (Nat.le_of_ble_eq_true rfl) ⟨Nat.zero_le _, Nat.zero_le _⟩ dX8_tissue_24 (fun H locs hw => ?_)
    refine W.eq (g2 := F0 m 27 ls [va_rf (Option.map g.2.1 z41)]) rfl ?_
    refine mso (lv' := [(7, va_rf (Option.map g.2.1 z41)), (6, .int (1 : Int32)), (0, .ref (g.2.1 a0)), (1, .int a1), (2, .int a2), (3, .int a3), (4, .int a4), (5, .int a5)]) hx hb dX8_tissue_27 hl (by decide) rfl (fun ls hl => ?_)
    refine mlo hx hb dX8_tissue_29 (lv_at hl 0 rfl) ?_
    rcases z41 with _ | x43
    · replace hf := mON0 hf
      replace hl : lv_has ls 9 [(7, .null), (6, .int (1 : Int32)), (0, .ref (g.2.1 a0)), (1, .int a1), (2, .int a2), (3, .int a3), (4, .int a4), (5, .int a5)] := hl
      refine W.eq (g2 := F0 m 31 ls [.null]) rfl ?_
      refine lv_ifnullN (tgt := 43) hx hb dX8_tissue_31 (by decide) ?_
      refine lv_iconst (v := (0 : Int32)) hx hb dX8_tissue_43 (by decide) ?_
      rw [hQm, ← Option.some.inj hf]
      exact mrz (v := false) hx hb hr hlk hw dX8_tissue_44
    · replace hf := mON1 hf
      replace hl : lv_has ls 9 [(7, .ref (g.2.1 x43)), (6, .int (1 : Int32)), (0, .ref (g.2.1 a0)), (1, .int a1), (2, .int a2), (3, .int a3), (4, .int a4), (5, .int a5)] := hl
      refine W.eq (g2 := F0 m 31 ls [.ref (g.2.1 x43)]) rfl ?_
      refine lv_ifnull hx hb dX8_tissue_31 ?_
      refine lv_iload_n hx hb dX8_tissue_34 rfl (lv_at hl 5 rfl) ?_
      refine lv_iconst (v := (0 : Int32)) hx hb dX8_tissue_35 (by decide) ?_
      refine lv_iconst (v := (2 : Int32)) hx hb dX8_tissue_36 (by decide) ?_
      obtain ⟨z44, e45, hf⟩ := mBind hf
      refine mcallS (rest := []) B hw [.int a3, .int (0 : Int32), .int (2 : Int32)] clX8_82 (r_X8_within l g K n hJ hO a3 (0 : Int32) (2 : Int32) I0 J0 R0 z44 e45) ⟨rfl, rfl, Nat.le_of_ble_eq_true rfl, Nat.le_of_ble_eq_true rfl⟩ rfl hl.1 (Nat.le_of_ble_eq_true rfl) ⟨Nat.zero_le _, Nat.zero_le _⟩ dX8_tissue_37 (fun H locs hw => ?_)
      refine W.eq (g2 := F0 m 40 ls [.int (mb z44)]) rfl ?_
      refine lv_if_ne (tgt := 45) hx hb dX8_tissue_40 (by decide) (fun c46 => ?_) (fun c46 => ?_)
      · replace hf := mF1 c46 hf
        refine lv_iload hx hb dX8_tissue_45 (lv_at hl 6 rfl) ?_
        refine lv_if_eq (tgt := 74) hx hb dX8_tissue_47 (by decide) (fun c47 => ?_) (fun c47 => ?_)
        · replace hf := mT1 c47 hf
          refine lv_iload hx hb dX8_tissue_74 (lv_at hl 1 rfl) ?_
          refine lv_if_eq (tgt := 87) hx hb dX8_tissue_76 (by decide) (fun c => absurd c (by decide)) (fun _ => ?_)
          refine lv_aload hx hb dX8_tissue_79 (lv_at hl 0 rfl) ?_
          obtain ⟨h49, hf⟩ := mChk hf
          obtain ⟨x50, e51, hf⟩ := mBind hf
          refine mgr B hw flX8_103 rfl h49 e51 dX8_tissue_81 ?_
          refine lv_goto (tgt := 92) hx hb dX8_tissue_84 (by decide) ?_
          refine lv_astore (lv' := [(8, .ref (g.2.1 x50)), (7, .ref (g.2.1 x43)), (6, .int (1 : Int32)), (0, .ref (g.2.1 a0)), (1, .int a1), (2, .int a2), (3, .int a3), (4, .int a4), (5, .int a5)]) hx hb dX8_tissue_92 hl (by decide) rfl (fun ls hl => ?_)
          refine lv_aload hx hb dX8_tissue_94 (lv_at hl 0 rfl) ?_
          refine lv_iload_n hx hb dX8_tissue_96 rfl (lv_at hl 6 rfl) ?_
          refine lv_iload hx hb dX8_tissue_97 (lv_at hl 7 rfl) ?_
          refine lv_if_ne (tgt := 106) hx hb dX8_tissue_99 (by decide) (fun c52 => ?_) (fun c52 => ?_)
          · replace hf := mF1 c52 hf
            refine lv_bipush (v := (10 : Int32)) hx hb dX8_tissue_106 (by decide) ?_
            refine lv_iload hx hb dX8_tissue_108 (lv_at hl 7 rfl) ?_
            refine lv_iload hx hb dX8_tissue_110 (lv_at hl 8 rfl) ?_
            refine mmmin B hl.1 mhX8_109 (Nat.le_of_ble_eq_true rfl) (Nat.le_of_ble_eq_true rfl) (Nat.zero_le _) (Nat.zero_le _) dX8_tissue_112 ?_
            refine lv_imul hx hb dX8_tissue_115 ?_
            refine lv_iload hx hb dX8_tissue_116 (lv_at hl 7 rfl) ?_
            refine lv_iload hx hb dX8_tissue_118 (lv_at hl 8 rfl) ?_
            refine mmmax B hl.1 mhX8_115 (Nat.le_of_ble_eq_true rfl) (Nat.le_of_ble_eq_true rfl) (Nat.zero_le _) (Nat.zero_le _) dX8_tissue_120 ?_
            refine lv_iadd hx hb dX8_tissue_123 ?_
            obtain ⟨h53, hf⟩ := mChk hf
            obtain ⟨I54, e55, hf⟩ := mLet hf
            refine mst1 B hw h53 dX8_tissue_124 (fun H locs hw => ?_)
            rw [← e55] at hw
            refine lv_iconst (v := (1 : Int32)) hx hb dX8_tissue_125 (by decide) ?_
            rw [hQm, ← Option.some.inj hf]
            exact mrz (v := true) hx hb hr hlk hw dX8_tissue_126
          · replace hf := mT1 c52 hf
            refine lv_iconst (v := (0 : Int32)) hx hb dX8_tissue_102 (by decide) ?_
            refine lv_goto (tgt := 124) hx hb dX8_tissue_103 (by decide) ?_
            obtain ⟨h56, hf⟩ := mChk hf
            obtain ⟨I57, e58, hf⟩ := mLet hf
            refine mst1 B hw h56 dX8_tissue_124 (fun H locs hw => ?_)
            rw [← e58] at hw
            refine lv_iconst (v := (1 : Int32)) hx hb dX8_tissue_125 (by decide) ?_
            rw [hQm, ← Option.some.inj hf]
            exact mrz (v := true) hx hb hr hlk hw dX8_tissue_126
        · replace hf := mF1 c47 hf
          refine lv_iload hx hb dX8_tissue_50 (lv_at hl 6 rfl) ?_
          refine lv_iconst (v := (1 : Int32)) hx hb dX8_tissue_52 (by decide) ?_
          refine lv_bipush (v := (9 : Int32)) hx hb dX8_tissue_53 (by decide) ?_
          obtain ⟨z59, e60, hf⟩ := mBind hf
          refine mcallS (rest := []) B hw [.int a4, .int (1 : Int32), .int (9 : Int32)] clX8_82 (r_X8_within l g K n hJ hO a4 (1 : Int32) (9 : Int32) I0 J0 R0 z59 e60) ⟨rfl, rfl, Nat.le_of_ble_eq_true rfl, Nat.le_of_ble_eq_true rfl⟩ rfl hl.1 (Nat.le_of_ble_eq_true rfl) ⟨Nat.zero_le _, Nat.zero_le _⟩ dX8_tissue_55 (fun H locs hw => ?_)
          refine W.eq (g2 := F0 m 58 ls [.int (mb z59)]) rfl ?_
          refine lv_if_eq (tgt := 72) hx hb dX8_tissue_58 (by decide) (fun c61 => ?_) (fun c61 => ?_)
          · replace hf := mT1 c61 hf
            refine lv_iconst (v := (0 : Int32)) hx hb dX8_tissue_72 (by decide) ?_
            rw [hQm, ← Option.some.inj hf]
            exact mrz (v := false) hx hb hr hlk hw dX8_tissue_73
          · replace hf := mF1 c61 hf
            refine lv_iload hx hb dX8_tissue_61 (lv_at hl 7 rfl) ?_
            refine lv_iconst (v := (1 : Int32)) hx hb dX8_tissue_63 (by decide) ?_
            refine lv_bipush (v := (9 : Int32)) hx hb dX8_tissue_64 (by decide) ?_
            obtain ⟨z62, e63, hf⟩ := mBind hf
            refine mcallS (rest := []) B hw [.int a5, .int (1 : Int32), .int (9 : Int32)] clX8_82 (r_X8_within l g K n hJ hO a5 (1 : Int32) (9 : Int32) I0 J0 R0 z62 e63) ⟨rfl, rfl, Nat.le_of_ble_eq_true rfl, Nat.le_of_ble_eq_true rfl⟩ rfl hl.1 (Nat.le_of_ble_eq_true rfl) ⟨Nat.zero_le _, Nat.zero_le _⟩ dX8_tissue_66 (fun H locs hw => ?_)
            refine W.eq (g2 := F0 m 69 ls [.int (mb z62)]) rfl ?_
            refine lv_if_ne (tgt := 74) hx hb dX8_tissue_69 (by decide) (fun c64 => ?_) (fun c64 => ?_)
            · replace hf := mF1 c64 hf
              refine lv_iload hx hb dX8_tissue_74 (lv_at hl 1 rfl) ?_
              refine lv_if_eq (tgt := 87) hx hb dX8_tissue_76 (by decide) (fun c => absurd c (by decide)) (fun _ => ?_)
              refine lv_aload hx hb dX8_tissue_79 (lv_at hl 0 rfl) ?_
              obtain ⟨h66, hf⟩ := mChk hf
              obtain ⟨x67, e68, hf⟩ := mBind hf
              refine mgr B hw flX8_103 rfl h66 e68 dX8_tissue_81 ?_
              refine lv_goto (tgt := 92) hx hb dX8_tissue_84 (by decide) ?_
              refine lv_astore (lv' := [(8, .ref (g.2.1 x67)), (7, .ref (g.2.1 x43)), (6, .int (1 : Int32)), (0, .ref (g.2.1 a0)), (1, .int a1), (2, .int a2), (3, .int a3), (4, .int a4), (5, .int a5)]) hx hb dX8_tissue_92 hl (by decide) rfl (fun ls hl => ?_)
              refine lv_aload hx hb dX8_tissue_94 (lv_at hl 0 rfl) ?_
              refine lv_iload_n hx hb dX8_tissue_96 rfl (lv_at hl 6 rfl) ?_
              refine lv_iload hx hb dX8_tissue_97 (lv_at hl 7 rfl) ?_
              refine lv_if_ne (tgt := 106) hx hb dX8_tissue_99 (by decide) (fun c69 => ?_) (fun c69 => ?_)
              · replace hf := mF1 c69 hf
                refine lv_bipush (v := (10 : Int32)) hx hb dX8_tissue_106 (by decide) ?_
                refine lv_iload hx hb dX8_tissue_108 (lv_at hl 7 rfl) ?_
                refine lv_iload hx hb dX8_tissue_110 (lv_at hl 8 rfl) ?_
                refine mmmin B hl.1 mhX8_109 (Nat.le_of_ble_eq_true rfl) (Nat.le_of_ble_eq_true rfl) (Nat.zero_le _) (Nat.zero_le _) dX8_tissue_112 ?_
                refine lv_imul hx hb dX8_tissue_115 ?_
                refine lv_iload hx hb dX8_tissue_116 (lv_at hl 7 rfl) ?_
                refine lv_iload hx hb dX8_tissue_118 (lv_at hl 8 rfl) ?_
                refine mmmax B hl.1 mhX8_115 (Nat.le_of_ble_eq_true rfl) (Nat.le_of_ble_eq_true rfl) (Nat.zero_le _) (Nat.zero_le _) dX8_tissue_120 ?_
                refine lv_iadd hx hb dX8_tissue_123 ?_
                obtain ⟨h70, hf⟩ := mChk hf
                obtain ⟨I71, e72, hf⟩ := mLet hf
                refine mst1 B hw h70 dX8_tissue_124 (fun H locs hw => ?_)
                rw [← e72] at hw
                refine lv_iconst (v := (1 : Int32)) hx hb dX8_tissue_125 (by decide) ?_
                rw [hQm, ← Option.some.inj hf]
                exact mrz (v := true) hx hb hr hlk hw dX8_tissue_126
              · replace hf := mT1 c69 hf
                refine lv_iconst (v := (0 : Int32)) hx hb dX8_tissue_102 (by decide) ?_
                refine lv_goto (tgt := 124) hx hb dX8_tissue_103 (by decide) ?_
                obtain ⟨h73, hf⟩ := mChk hf
                obtain ⟨I74, e75, hf⟩ := mLet hf
                refine mst1 B hw h73 dX8_tissue_124 (fun H locs hw => ?_)
                rw [← e75] at hw
                refine lv_iconst (v := (1 : Int32)) hx hb dX8_tissue_125 (by decide) ?_
                rw [hQm, ← Option.some.inj hf]
                exact mrz (v := true) hx hb hr hlk hw dX8_tissue_126
            · replace hf := mT1 c64 hf
              refine lv_iconst (v := (0 : Int32)) hx hb dX8_tissue_72 (by decide) ?_
              rw [hQm, ← Option.some.inj hf]
              exact mrz (v := false) hx hb hr hlk hw dX8_tissue_73
      · replace hf := mT1 c46 hf
        refine lv_iconst (v := (0 : Int32)) hx hb dX8_tissue_43 (by decide) ?_
        rw [hQm, ← Option.some.inj hf]
        exact mrz (v := false) hx hb hr hlk hw dX8_tissue_44
def f_X8_pieces (K : mK) (a0 : Nat) (a1 : Int32) (a2 : Int32) (I0 : mI) (J0 : mJ) (R0 : mR) : Option (Bool × mI) :=
  if K a0 = (0, 8) then
  (R0 a0 1).bind fun x2 =>
  if K x2 = (0, 0) then
  (R0 x2 0).bind fun x5 =>
  if K x5 = (0, 2) then
  (f_X2_find K x5 a1 I0 J0 R0).bind fun z8 =>
  mON z8 (
  some (false, I0)) (fun x10 =>
  (f_X8_within K a2 (0 : Int32) (255 : Int32) I0 J0 R0).bind fun z11 =>
  if (mb z11) = 0 then
  some (false, I0)
  else
  (f_X0_piecesBeside K x2 a1 I0 J0 R0).bind fun z14 =>
  if (z14 &&& a2) = 0 then
  if K x10 = (0, 1) then
  (some (mup I0 x10 3 a2)).bind fun I18 =>
  some (true, I18)
  else none
  else
  some (false, I0))
  else none
  else none
  else none
set_option maxHeartbeats 4000000 in
set_option maxRecDepth 100000 in
theorem r_X8_pieces (l : Launch) (g : mG) (K : mK) (n : Nat) (hJ : mInj g n) (hO : mOk K n) (a0 : Nat) (a1 : Int32) (a2 : Int32) (I0 : mI) (J0 : mJ) (R0 : mR) (out : (Bool × mI)) (hf : f_X8_pieces K a0 a1 a2 I0 J0 R0 = some out) : Met l yX8_pieces (mWs yX8_pieces cX8_pieces 4 (some .boolean)) ({ frames := 2, cells := 0, slots := 0, locals := 45 }) (va_Pc [.ref (g.2.1 a0), .int a1, .int a2] (mB g K n I0 J0 R0)) (mQ g K n (some (.int (mb out.1))) out.2 J0 R0) 0 0 (mA g n) := by
  unfold f_X8_pieces at hf
  refine mStart RX8 hJ hO (by decide) rfl (Nat.le_of_ble_eq_true rfl) ?_
  intro p e s m below meth c ls Qm hQm B hr hlk hw hl
  have hx := B.1.1
  have hb := B.1.2.1
  have hl : lv_has ls 4 [(0, .ref (g.2.1 a0)), (1, .int a1), (2, .int a2)] := hl
  refine lv_aload_n hx hb dX8_pieces_0 rfl (lv_at hl 0 rfl) ?_
  obtain ⟨h1, hf⟩ := mChk hf
  obtain ⟨x2, e3, hf⟩ := mBind hf
  refine mgr B hw flX8_19 rfl h1 e3 dX8_pieces_1 ?_
  obtain ⟨h4, hf⟩ := mChk hf
  obtain ⟨x5, e6, hf⟩ := mBind hf
  refine mgr B hw flX8_75 rfl h4 e6 dX8_pieces_4 ?_
  refine lv_iload_n hx hb dX8_pieces_7 rfl (lv_at hl 1 rfl) ?_
  obtain ⟨h7, hf⟩ := mChk hf
  obtain ⟨z8, e9, hf⟩ := mBind hf
  refine mcallV (rest := []) (ci := 2) B hw [.int a1] clX8_118 rfl h7 (r_X2_find l g K n hJ hO x5 a1 I0 J0 R0 z8 e9) ⟨rfl, rfl, Nat.le_of_ble_eq_true rfl, Nat.le_of_ble_eq_true rfl⟩ rfl hl.1 (Nat.le_of_ble_eq_true rfl) ⟨Nat.zero_le _, Nat.zero_le _⟩ dX8_pieces_8 (fun H locs hw => ?_)
  refine W.eq (g2 := F0 m 11 ls [va_rf (Option.map g.2.1 z8)]) rfl ?_
  refine mso_n (lv' := [(3, va_rf (Option.map g.2.1 z8)), (0, .ref (g.2.1 a0)), (1, .int a1), (2, .int a2)]) hx hb dX8_pieces_11 rfl hl (by decide) rfl (fun ls hl => ?_)
  refine mlo_n hx hb dX8_pieces_12 rfl (lv_at hl 0 rfl) ?_
  rcases z8 with _ | x10
  · replace hf := mON0 hf
    replace hl : lv_has ls 4 [(3, .null), (0, .ref (g.2.1 a0)), (1, .int a1), (2, .int a2)] := hl
    refine W.eq (g2 := F0 m 13 ls [.null]) rfl ?_
    refine lv_ifnullN (tgt := 27) hx hb dX8_pieces_13 (by decide) ?_
    refine lv_iconst (v := (0 : Int32)) hx hb dX8_pieces_27 (by decide) ?_
    rw [hQm, ← Option.some.inj hf]
    exact mrz (v := false) hx hb hr hlk hw dX8_pieces_28
  · replace hf := mON1 hf
    replace hl : lv_has ls 4 [(3, .ref (g.2.1 x10)), (0, .ref (g.2.1 a0)), (1, .int a1), (2, .int a2)] := hl
    refine W.eq (g2 := F0 m 13 ls [.ref (g.2.1 x10)]) rfl ?_
    refine lv_ifnull hx hb dX8_pieces_13 ?_
    refine lv_iload_n hx hb dX8_pieces_16 rfl (lv_at hl 3 rfl) ?_
    refine lv_iconst (v := (0 : Int32)) hx hb dX8_pieces_17 (by decide) ?_
    refine lv_sipush (v := (255 : Int32)) hx hb dX8_pieces_18 (by decide) ?_
    obtain ⟨z11, e12, hf⟩ := mBind hf
    refine mcallS (rest := []) B hw [.int a2, .int (0 : Int32), .int (255 : Int32)] clX8_82 (r_X8_within l g K n hJ hO a2 (0 : Int32) (255 : Int32) I0 J0 R0 z11 e12) ⟨rfl, rfl, Nat.le_of_ble_eq_true rfl, Nat.le_of_ble_eq_true rfl⟩ rfl hl.1 (Nat.le_of_ble_eq_true rfl) ⟨Nat.zero_le _, Nat.zero_le _⟩ dX8_pieces_21 (fun H locs hw => ?_)
    refine W.eq (g2 := F0 m 24 ls [.int (mb z11)]) rfl ?_
    refine lv_if_ne (tgt := 29) hx hb dX8_pieces_24 (by decide) (fun c13 => ?_) (fun c13 => ?_)
    · replace hf := mF1 c13 hf
      refine lv_aload_n hx hb dX8_pieces_29 rfl (lv_at hl 1 rfl) ?_
      refine mgr B hw flX8_19 rfl h1 e3 dX8_pieces_30 ?_
      refine lv_iload_n hx hb dX8_pieces_33 rfl (lv_at hl 2 rfl) ?_
      obtain ⟨z14, e15, hf⟩ := mBind hf
      refine mcallV (rest := []) (ci := 0) B hw [.int a1] clX8_122 rfl h4 (r_X0_piecesBeside l g K n hJ hO x2 a1 I0 J0 R0 z14 e15) ⟨rfl, rfl, Nat.le_of_ble_eq_true rfl, Nat.le_of_ble_eq_true rfl⟩ rfl hl.1 (Nat.le_of_ble_eq_true rfl) ⟨Nat.zero_le _, Nat.zero_le _⟩ dX8_pieces_34 (fun H locs hw => ?_)
      refine W.eq (g2 := F0 m 37 ls [.int z14]) rfl ?_
      refine lv_iload_n hx hb dX8_pieces_37 rfl (lv_at hl 3 rfl) ?_
      refine lv_iand hx hb dX8_pieces_38 ?_
      refine lv_if_eq (tgt := 44) hx hb dX8_pieces_39 (by decide) (fun c16 => ?_) (fun c16 => ?_)
      · replace hf := mT1 c16 hf
        refine lv_aload_n hx hb dX8_pieces_44 rfl (lv_at hl 0 rfl) ?_
        refine lv_iload_n hx hb dX8_pieces_45 rfl (lv_at hl 3 rfl) ?_
        obtain ⟨h17, hf⟩ := mChk hf
        obtain ⟨I18, e19, hf⟩ := mLet hf
        refine mpi B hw puX8_126 rfl h17 dX8_pieces_46 (fun H locs hw => ?_)
        rw [← e19] at hw
        refine lv_iconst (v := (1 : Int32)) hx hb dX8_pieces_49 (by decide) ?_
        rw [hQm, ← Option.some.inj hf]
        exact mrz (v := true) hx hb hr hlk hw dX8_pieces_50
      · replace hf := mF1 c16 hf
        refine lv_iconst (v := (0 : Int32)) hx hb dX8_pieces_42 (by decide) ?_
        rw [hQm, ← Option.some.inj hf]
        exact mrz (v := false) hx hb hr hlk hw dX8_pieces_43
    · replace hf := mT1 c13 hf
      refine lv_iconst (v := (0 : Int32)) hx hb dX8_pieces_27 (by decide) ?_
      rw [hQm, ← Option.some.inj hf]
      exact mrz (v := false) hx hb hr hlk hw dX8_pieces_28
def f_X8_unfit (K : mK) (a0 : Nat) (a1 : Int32) (a2 : Int32) (I0 : mI) (J0 : mJ) (R0 : mR) : Option (Int32 × mI) :=
  if K a0 = (0, 8) then
  (R0 a0 1).bind fun x2 =>
  if K x2 = (0, 0) then
  (f_X0_leaderOf K x2 a1 I0 J0 R0).bind fun z5 =>
  (f_X0_leaderOf K x2 a2 I0 J0 R0).bind fun z7 =>
  if z5 = (-1 : Int32) then
  some ((1 : Int32), I0)
  else
  if z7 = (-1 : Int32) then
  some ((1 : Int32), I0)
  else
  if z5 = z7 then
  some ((1 : Int32), I0)
  else
  (R0 a0 6).bind fun x12 =>
  (f_X0_gather K x2 z5 x12 I0 J0 R0).bind fun z14 =>
  (R0 a0 7).bind fun x16 =>
  (f_X0_gather K x2 z7 x16 z14 J0 R0).bind fun z18 =>
  if K x12 = (0, 1) then
  if K x16 = (0, 1) then
  if ((z18 x12 3) &&& (z18 x16 3)) = 0 then
  (f_X1_sexUnlike K x12 x16 z18 J0 R0).bind fun z23 =>
  if (mb z23) = 0 then
  (f_X1_ageMeets K x12 x16 z18 J0 R0).bind fun z26 =>
  if (mb z26) = 0 then
  some ((4 : Int32), z18)
  else
  (f_X1_sheetUnlike K x12 x16 z18 J0 R0).bind fun z29 =>
  if (mb z29) = 0 then
  (R0 x2 2).bind fun x32 =>
  if mIx K x32 1 z5 then
  if (z18 x32 (z5).toNatClampNeg) = (-1 : Int32) then
  if mIx K x32 1 z7 then
  if (z18 x32 (z7).toNatClampNeg) = (-1 : Int32) then
  some ((0 : Int32), z18)
  else
  some ((6 : Int32), z18)
  else none
  else
  some ((6 : Int32), z18)
  else none
  else
  some ((5 : Int32), z18)
  else
  some ((3 : Int32), z18)
  else
  some ((2 : Int32), z18)
  else none
  else none
  else none
  else none
set_option maxHeartbeats 4000000 in
set_option maxRecDepth 100000 in
theorem r_X8_unfit (l : Launch) (g : mG) (K : mK) (n : Nat) (hJ : mInj g n) (hO : mOk K n) (a0 : Nat) (a1 : Int32) (a2 : Int32) (I0 : mI) (J0 : mJ) (R0 : mR) (out : (Int32 × mI)) (hf : f_X8_unfit K a0 a1 a2 I0 J0 R0 = some out) : Met l yX8_unfit (mWs yX8_unfit cX8_unfit 5 (some .int)) ({ frames := 3, cells := 0, slots := 0, locals := 66 }) (va_Pc [.ref (g.2.1 a0), .int a1, .int a2] (mB g K n I0 J0 R0)) (mQ g K n (some (.int out.1)) out.2 J0 R0) 0 0 (mA g n) := by
  unfold f_X8_unfit at hf
  refine mStart RX8 hJ hO (by decide) rfl (Nat.le_of_ble_eq_true rfl) ?_
  intro p e s m below meth c ls Qm hQm B hr hlk hw hl
  have hx := B.1.1
  have hb := B.1.2.1
  have hl : lv_has ls 5 [(0, .ref (g.2.1 a0)), (1, .int a1), (2, .int a2)] := hl
  refine lv_aload_n hx hb dX8_unfit_0 rfl (lv_at hl 0 rfl) ?_
  obtain ⟨h1, hf⟩ := mChk hf
  obtain ⟨x2, e3, hf⟩ := mBind hf
  refine mgr B hw flX8_19 rfl h1 e3 dX8_unfit_1 ?_
  refine lv_iload_n hx hb dX8_unfit_4 rfl (lv_at hl 1 rfl) ?_
  obtain ⟨h4, hf⟩ := mChk hf
  obtain ⟨z5, e6, hf⟩ := mBind hf
  refine mcallV (rest := []) (ci := 0) B hw [.int a1] clX8_129 rfl h4 (r_X0_leaderOf l g K n hJ hO x2 a1 I0 J0 R0 z5 e6) ⟨rfl, rfl, Nat.le_of_ble_eq_true rfl, Nat.le_of_ble_eq_true rfl⟩ rfl hl.1 (Nat.le_of_ble_eq_true rfl) ⟨Nat.zero_le _, Nat.zero_le _⟩ dX8_unfit_5 (fun H locs hw => ?_)
  refine W.eq (g2 := F0 m 8 ls [.int z5]) rfl ?_
  refine lv_istore_n (lv' := [(3, .int z5), (0, .ref (g.2.1 a0)), (1, .int a1), (2, .int a2)]) hx hb dX8_unfit_8 rfl hl (by decide) rfl (fun ls hl => ?_)
  refine lv_aload_n hx hb dX8_unfit_9 rfl (lv_at hl 1 rfl) ?_
  refine mgr B hw flX8_19 rfl h1 e3 dX8_unfit_10 ?_
  refine lv_iload_n hx hb dX8_unfit_13 rfl (lv_at hl 3 rfl) ?_
  obtain ⟨z7, e8, hf⟩ := mBind hf
  refine mcallV (rest := []) (ci := 0) B hw [.int a2] clX8_129 rfl h4 (r_X0_leaderOf l g K n hJ hO x2 a2 I0 J0 R0 z7 e8) ⟨rfl, rfl, Nat.le_of_ble_eq_true rfl, Nat.le_of_ble_eq_true rfl⟩ rfl hl.1 (Nat.le_of_ble_eq_true rfl) ⟨Nat.zero_le _, Nat.zero_le _⟩ dX8_unfit_14 (fun H locs hw => ?_)
  refine W.eq (g2 := F0 m 17 ls [.int z7]) rfl ?_
  refine lv_istore (lv' := [(4, .int z7), (3, .int z5), (0, .ref (g.2.1 a0)), (1, .int a1), (2, .int a2)]) hx hb dX8_unfit_17 hl (by decide) rfl (fun ls hl => ?_)
  refine lv_iload_n hx hb dX8_unfit_19 rfl (lv_at hl 1 rfl) ?_
  refine lv_iconst (v := (-1 : Int32)) hx hb dX8_unfit_20 (by decide) ?_
  refine lv_icmp_eq (tgt := 36) hx hb dX8_unfit_21 (by decide) (fun c9 => ?_) (fun c9 => ?_)
  · replace hf := mT1 c9 hf
    refine lv_iconst (v := (1 : Int32)) hx hb dX8_unfit_36 (by decide) ?_
    rw [hQm, ← Option.some.inj hf]
    exact mri hx hb hr hlk hw dX8_unfit_37
  · replace hf := mF1 c9 hf
    refine lv_iload hx hb dX8_unfit_24 (lv_at hl 0 rfl) ?_
    refine lv_iconst (v := (-1 : Int32)) hx hb dX8_unfit_26 (by decide) ?_
    refine lv_icmp_eq (tgt := 36) hx hb dX8_unfit_27 (by decide) (fun c10 => ?_) (fun c10 => ?_)
    · replace hf := mT1 c10 hf
      refine lv_iconst (v := (1 : Int32)) hx hb dX8_unfit_36 (by decide) ?_
      rw [hQm, ← Option.some.inj hf]
      exact mri hx hb hr hlk hw dX8_unfit_37
    · replace hf := mF1 c10 hf
      refine lv_iload_n hx hb dX8_unfit_30 rfl (lv_at hl 1 rfl) ?_
      refine lv_iload hx hb dX8_unfit_31 (lv_at hl 0 rfl) ?_
      refine lv_icmp_ne (tgt := 38) hx hb dX8_unfit_33 (by decide) (fun c11 => ?_) (fun c11 => ?_)
      · replace hf := mF1 c11 hf
        refine lv_aload_n hx hb dX8_unfit_38 rfl (lv_at hl 2 rfl) ?_
        refine mgr B hw flX8_19 rfl h1 e3 dX8_unfit_39 ?_
        refine lv_iload_n hx hb dX8_unfit_42 rfl (lv_at hl 1 rfl) ?_
        refine lv_aload_n hx hb dX8_unfit_43 rfl (lv_at hl 2 rfl) ?_
        obtain ⟨x12, e13, hf⟩ := mBind hf
        refine mgr B hw flX8_54 rfl h1 e13 dX8_unfit_44 ?_
        obtain ⟨z14, e15, hf⟩ := mBind hf
        refine mcallV (rest := []) (ci := 0) B hw [.int z5, .ref (g.2.1 x12)] clX8_132 rfl h4 (r_X0_gather l g K n hJ hO x2 z5 x12 I0 J0 R0 z14 e15) ⟨rfl, rfl, Nat.le_of_ble_eq_true rfl, Nat.le_of_ble_eq_true rfl⟩ rfl hl.1 (Nat.le_of_ble_eq_true rfl) ⟨Nat.zero_le _, Nat.zero_le _⟩ dX8_unfit_47 (fun H locs hw => ?_)
        refine W.eq (g2 := F0 m 50 ls []) rfl ?_
        refine lv_aload_n hx hb dX8_unfit_50 rfl (lv_at hl 2 rfl) ?_
        refine mgr B hw flX8_19 rfl h1 e3 dX8_unfit_51 ?_
        refine lv_iload hx hb dX8_unfit_54 (lv_at hl 0 rfl) ?_
        refine lv_aload_n hx hb dX8_unfit_56 rfl (lv_at hl 2 rfl) ?_
        obtain ⟨x16, e17, hf⟩ := mBind hf
        refine mgr B hw flX8_58 rfl h1 e17 dX8_unfit_57 ?_
        obtain ⟨z18, e19, hf⟩ := mBind hf
        refine mcallV (rest := []) (ci := 0) B hw [.int z7, .ref (g.2.1 x16)] clX8_132 rfl h4 (r_X0_gather l g K n hJ hO x2 z7 x16 z14 J0 R0 z18 e19) ⟨rfl, rfl, Nat.le_of_ble_eq_true rfl, Nat.le_of_ble_eq_true rfl⟩ rfl hl.1 (Nat.le_of_ble_eq_true rfl) ⟨Nat.zero_le _, Nat.zero_le _⟩ dX8_unfit_60 (fun H locs hw => ?_)
        refine W.eq (g2 := F0 m 63 ls []) rfl ?_
        refine lv_aload_n hx hb dX8_unfit_63 rfl (lv_at hl 2 rfl) ?_
        refine mgr B hw flX8_54 rfl h1 e13 dX8_unfit_64 ?_
        obtain ⟨h20, hf⟩ := mChk hf
        refine mgi B hw flX8_126 rfl h20 dX8_unfit_67 ?_
        refine lv_aload_n hx hb dX8_unfit_70 rfl (lv_at hl 2 rfl) ?_
        refine mgr B hw flX8_58 rfl h1 e17 dX8_unfit_71 ?_
        obtain ⟨h21, hf⟩ := mChk hf
        refine mgi B hw flX8_126 rfl h21 dX8_unfit_74 ?_
        refine lv_iand hx hb dX8_unfit_77 ?_
        refine lv_if_eq (tgt := 83) hx hb dX8_unfit_78 (by decide) (fun c22 => ?_) (fun c22 => ?_)
        · replace hf := mT1 c22 hf
          refine lv_aload_n hx hb dX8_unfit_83 rfl (lv_at hl 2 rfl) ?_
          refine mgr B hw flX8_54 rfl h1 e13 dX8_unfit_84 ?_
          refine lv_aload_n hx hb dX8_unfit_87 rfl (lv_at hl 2 rfl) ?_
          refine mgr B hw flX8_58 rfl h1 e17 dX8_unfit_88 ?_
          obtain ⟨z23, e24, hf⟩ := mBind hf
          refine mcallV (rest := []) (ci := 1) B hw [.ref (g.2.1 x16)] clX8_136 rfl h20 (r_X1_sexUnlike l g K n hJ hO x12 x16 z18 J0 R0 z23 e24) ⟨rfl, rfl, Nat.le_of_ble_eq_true rfl, Nat.le_of_ble_eq_true rfl⟩ rfl hl.1 (Nat.le_of_ble_eq_true rfl) ⟨Nat.zero_le _, Nat.zero_le _⟩ dX8_unfit_91 (fun H locs hw => ?_)
          refine W.eq (g2 := F0 m 94 ls [.int (mb z23)]) rfl ?_
          refine lv_if_eq (tgt := 99) hx hb dX8_unfit_94 (by decide) (fun c25 => ?_) (fun c25 => ?_)
          · replace hf := mT1 c25 hf
            refine lv_aload_n hx hb dX8_unfit_99 rfl (lv_at hl 2 rfl) ?_
            refine mgr B hw flX8_54 rfl h1 e13 dX8_unfit_100 ?_
            refine lv_aload_n hx hb dX8_unfit_103 rfl (lv_at hl 2 rfl) ?_
            refine mgr B hw flX8_58 rfl h1 e17 dX8_unfit_104 ?_
            obtain ⟨z26, e27, hf⟩ := mBind hf
            refine mcallV (rest := []) (ci := 1) B hw [.ref (g.2.1 x16)] clX8_140 rfl h20 (r_X1_ageMeets l g K n hJ hO x12 x16 z18 J0 R0 z26 e27) ⟨rfl, rfl, Nat.le_of_ble_eq_true rfl, Nat.le_of_ble_eq_true rfl⟩ rfl hl.1 (Nat.le_of_ble_eq_true rfl) ⟨Nat.zero_le _, Nat.zero_le _⟩ dX8_unfit_107 (fun H locs hw => ?_)
            refine W.eq (g2 := F0 m 110 ls [.int (mb z26)]) rfl ?_
            refine lv_if_ne (tgt := 115) hx hb dX8_unfit_110 (by decide) (fun c28 => ?_) (fun c28 => ?_)
            · replace hf := mF1 c28 hf
              refine lv_aload_n hx hb dX8_unfit_115 rfl (lv_at hl 2 rfl) ?_
              refine mgr B hw flX8_54 rfl h1 e13 dX8_unfit_116 ?_
              refine lv_aload_n hx hb dX8_unfit_119 rfl (lv_at hl 2 rfl) ?_
              refine mgr B hw flX8_58 rfl h1 e17 dX8_unfit_120 ?_
              obtain ⟨z29, e30, hf⟩ := mBind hf
              refine mcallV (rest := []) (ci := 1) B hw [.ref (g.2.1 x16)] clX8_143 rfl h20 (r_X1_sheetUnlike l g K n hJ hO x12 x16 z18 J0 R0 z29 e30) ⟨rfl, rfl, Nat.le_of_ble_eq_true rfl, Nat.le_of_ble_eq_true rfl⟩ rfl hl.1 (Nat.le_of_ble_eq_true rfl) ⟨Nat.zero_le _, Nat.zero_le _⟩ dX8_unfit_123 (fun H locs hw => ?_)
              refine W.eq (g2 := F0 m 126 ls [.int (mb z29)]) rfl ?_
              refine lv_if_eq (tgt := 131) hx hb dX8_unfit_126 (by decide) (fun c31 => ?_) (fun c31 => ?_)
              · replace hf := mT1 c31 hf
                refine lv_aload_n hx hb dX8_unfit_131 rfl (lv_at hl 2 rfl) ?_
                refine mgr B hw flX8_19 rfl h1 e3 dX8_unfit_132 ?_
                obtain ⟨x32, e33, hf⟩ := mBind hf
                refine mgr B hw flX8_146 rfl h4 e33 dX8_unfit_135 ?_
                refine lv_iload_n hx hb dX8_unfit_138 rfl (lv_at hl 1 rfl) ?_
                obtain ⟨h34, hf⟩ := mChk hf
                refine mld1 B hw h34 dX8_unfit_139 ?_
                refine lv_iconst (v := (-1 : Int32)) hx hb dX8_unfit_140 (by decide) ?_
                refine lv_icmp_ne (tgt := 158) hx hb dX8_unfit_141 (by decide) (fun c35 => ?_) (fun c35 => ?_)
                · replace hf := mF1 c35 hf
                  refine lv_bipush (v := (6 : Int32)) hx hb dX8_unfit_158 (by decide) ?_
                  refine lv_goto (tgt := 164) hx hb dX8_unfit_160 (by decide) ?_
                  rw [hQm, ← Option.some.inj hf]
                  exact mri hx hb hr hlk hw dX8_unfit_164
                · replace hf := mT1 c35 hf
                  refine lv_aload_n hx hb dX8_unfit_144 rfl (lv_at hl 2 rfl) ?_
                  refine mgr B hw flX8_19 rfl h1 e3 dX8_unfit_145 ?_
                  refine mgr B hw flX8_146 rfl h4 e33 dX8_unfit_148 ?_
                  refine lv_iload hx hb dX8_unfit_151 (lv_at hl 0 rfl) ?_
                  obtain ⟨h36, hf⟩ := mChk hf
                  refine mld1 B hw h36 dX8_unfit_153 ?_
                  refine lv_iconst (v := (-1 : Int32)) hx hb dX8_unfit_154 (by decide) ?_
                  refine lv_icmp_eq (tgt := 163) hx hb dX8_unfit_155 (by decide) (fun c37 => ?_) (fun c37 => ?_)
                  · replace hf := mT1 c37 hf
                    refine lv_iconst (v := (0 : Int32)) hx hb dX8_unfit_163 (by decide) ?_
                    rw [hQm, ← Option.some.inj hf]
                    exact mri hx hb hr hlk hw dX8_unfit_164
                  · replace hf := mF1 c37 hf
                    refine lv_bipush (v := (6 : Int32)) hx hb dX8_unfit_158 (by decide) ?_
                    refine lv_goto (tgt := 164) hx hb dX8_unfit_160 (by decide) ?_
                    rw [hQm, ← Option.some.inj hf]
                    exact mri hx hb hr hlk hw dX8_unfit_164
              · replace hf := mF1 c31 hf
                refine lv_iconst (v := (5 : Int32)) hx hb dX8_unfit_129 (by decide) ?_
                rw [hQm, ← Option.some.inj hf]
                exact mri hx hb hr hlk hw dX8_unfit_130
            · replace hf := mT1 c28 hf
              refine lv_iconst (v := (4 : Int32)) hx hb dX8_unfit_113 (by decide) ?_
              rw [hQm, ← Option.some.inj hf]
              exact mri hx hb hr hlk hw dX8_unfit_114
          · replace hf := mF1 c25 hf
            refine lv_iconst (v := (3 : Int32)) hx hb dX8_unfit_97 (by decide) ?_
            rw [hQm, ← Option.some.inj hf]
            exact mri hx hb hr hlk hw dX8_unfit_98
        · replace hf := mF1 c22 hf
          refine lv_iconst (v := (2 : Int32)) hx hb dX8_unfit_81 (by decide) ?_
          rw [hQm, ← Option.some.inj hf]
          exact mri hx hb hr hlk hw dX8_unfit_82
      · replace hf := mT1 c11 hf
        refine lv_iconst (v := (1 : Int32)) hx hb dX8_unfit_36 (by decide) ?_
        rw [hQm, ← Option.some.inj hf]
        exact mri hx hb hr hlk hw dX8_unfit_37
def f_X8_join (K : mK) (a0 : Nat) (a1 : Int32) (a2 : Int32) (I0 : mI) (J0 : mJ) (R0 : mR) : Option (Bool × mI) :=
  if K a0 = (0, 8) then
  (f_X8_unfit K a0 a1 a2 I0 J0 R0).bind fun z2 =>
  if z2.1 = 0 then
  (R0 a0 1).bind fun x5 =>
  if K x5 = (0, 0) then
  (f_X0_leaderOf K x5 a1 z2.2 J0 R0).bind fun z8 =>
  (f_X0_leaderOf K x5 a2 z2.2 J0 R0).bind fun z10 =>
  (f_X0_unite K x5 z8 z10 z2.2 J0 R0).bind fun z12 =>
  some (true, z12)
  else none
  else
  some (false, z2.2)
  else none
set_option maxHeartbeats 4000000 in
set_option maxRecDepth 100000 in
theorem r_X8_join (l : Launch) (g : mG) (K : mK) (n : Nat) (hJ : mInj g n) (hO : mOk K n) (a0 : Nat) (a1 : Int32) (a2 : Int32) (I0 : mI) (J0 : mJ) (R0 : mR) (out : (Bool × mI)) (hf : f_X8_join K a0 a1 a2 I0 J0 R0 = some out) : Met l yX8_join (mWs yX8_join cX8_join 3 (some .boolean)) ({ frames := 4, cells := 0, slots := 0, locals := 90 }) (va_Pc [.ref (g.2.1 a0), .int a1, .int a2] (mB g K n I0 J0 R0)) (mQ g K n (some (.int (mb out.1))) out.2 J0 R0) 0 0 (mA g n) := by
  unfold f_X8_join at hf
  refine mStart RX8 hJ hO (by decide) rfl (Nat.le_of_ble_eq_true rfl) ?_
  intro p e s m below meth c ls Qm hQm B hr hlk hw hl
  have hx := B.1.1
  have hb := B.1.2.1
  have hl : lv_has ls 3 [(0, .ref (g.2.1 a0)), (1, .int a1), (2, .int a2)] := hl
  refine lv_aload_n hx hb dX8_join_0 rfl (lv_at hl 0 rfl) ?_
  refine lv_iload_n hx hb dX8_join_1 rfl (lv_at hl 1 rfl) ?_
  refine lv_iload_n hx hb dX8_join_2 rfl (lv_at hl 2 rfl) ?_
  obtain ⟨h1, hf⟩ := mChk hf
  obtain ⟨z2, e3, hf⟩ := mBind hf
  refine mcallV (rest := []) (ci := 8) B hw [.int a1, .int a2] clX8_149 rfl h1 (r_X8_unfit l g K n hJ hO a0 a1 a2 I0 J0 R0 z2 e3) ⟨rfl, rfl, Nat.le_of_ble_eq_true rfl, Nat.le_of_ble_eq_true rfl⟩ rfl hl.1 (Nat.le_of_ble_eq_true rfl) ⟨Nat.zero_le _, Nat.zero_le _⟩ dX8_join_3 (fun H locs hw => ?_)
  refine W.eq (g2 := F0 m 6 ls [.int z2.1]) rfl ?_
  refine lv_if_eq (tgt := 11) hx hb dX8_join_6 (by decide) (fun c4 => ?_) (fun c4 => ?_)
  · replace hf := mT1 c4 hf
    refine lv_aload_n hx hb dX8_join_11 rfl (lv_at hl 0 rfl) ?_
    obtain ⟨x5, e6, hf⟩ := mBind hf
    refine mgr B hw flX8_19 rfl h1 e6 dX8_join_12 ?_
    refine lv_aload_n hx hb dX8_join_15 rfl (lv_at hl 0 rfl) ?_
    refine mgr B hw flX8_19 rfl h1 e6 dX8_join_16 ?_
    refine lv_iload_n hx hb dX8_join_19 rfl (lv_at hl 1 rfl) ?_
    obtain ⟨h7, hf⟩ := mChk hf
    obtain ⟨z8, e9, hf⟩ := mBind hf
    refine mcallV (rest := [.ref (g.2.1 x5)]) (ci := 0) B hw [.int a1] clX8_129 rfl h7 (r_X0_leaderOf l g K n hJ hO x5 a1 z2.2 J0 R0 z8 e9) ⟨rfl, rfl, Nat.le_of_ble_eq_true rfl, Nat.le_of_ble_eq_true rfl⟩ rfl hl.1 (Nat.le_of_ble_eq_true rfl) ⟨Nat.zero_le _, Nat.zero_le _⟩ dX8_join_20 (fun H locs hw => ?_)
    refine W.eq (g2 := F0 m 23 ls [.int z8, .ref (g.2.1 x5)]) rfl ?_
    refine lv_aload_n hx hb dX8_join_23 rfl (lv_at hl 0 rfl) ?_
    refine mgr B hw flX8_19 rfl h1 e6 dX8_join_24 ?_
    refine lv_iload_n hx hb dX8_join_27 rfl (lv_at hl 2 rfl) ?_
    obtain ⟨z10, e11, hf⟩ := mBind hf
    refine mcallV (rest := [.int z8, .ref (g.2.1 x5)]) (ci := 0) B hw [.int a2] clX8_129 rfl h7 (r_X0_leaderOf l g K n hJ hO x5 a2 z2.2 J0 R0 z10 e11) ⟨rfl, rfl, Nat.le_of_ble_eq_true rfl, Nat.le_of_ble_eq_true rfl⟩ rfl hl.1 (Nat.le_of_ble_eq_true rfl) ⟨Nat.zero_le _, Nat.zero_le _⟩ dX8_join_28 (fun H locs hw => ?_)
    refine W.eq (g2 := F0 m 31 ls [.int z10, .int z8, .ref (g.2.1 x5)]) rfl ?_
    obtain ⟨z12, e13, hf⟩ := mBind hf
    refine mcallV (rest := []) (ci := 0) B hw [.int z8, .int z10] clX8_152 rfl h7 (r_X0_unite l g K n hJ hO x5 z8 z10 z2.2 J0 R0 z12 e13) ⟨rfl, rfl, Nat.le_of_ble_eq_true rfl, Nat.le_of_ble_eq_true rfl⟩ rfl hl.1 (Nat.le_of_ble_eq_true rfl) ⟨Nat.zero_le _, Nat.zero_le _⟩ dX8_join_31 (fun H locs hw => ?_)
    refine W.eq (g2 := F0 m 34 ls []) rfl ?_
    refine lv_iconst (v := (1 : Int32)) hx hb dX8_join_34 (by decide) ?_
    rw [hQm, ← Option.some.inj hf]
    exact mrz (v := true) hx hb hr hlk hw dX8_join_35
  · replace hf := mF1 c4 hf
    refine lv_iconst (v := (0 : Int32)) hx hb dX8_join_9 (by decide) ?_
    rw [hQm, ← Option.some.inj hf]
    exact mrz (v := false) hx hb hr hlk hw dX8_join_10
def f_X8_body (K : mK) (a0 : Nat) (a1 : Int32) (I0 : mI) (J0 : mJ) (R0 : mR) : Option Int32 :=
  if K a0 = (0, 8) then
  (R0 a0 1).bind fun x2 =>
  if K x2 = (0, 0) then
  (f_X0_leaderOf K x2 a1 I0 J0 R0).bind fun z5 =>
  some z5
  else none
  else none
set_option maxHeartbeats 4000000 in
set_option maxRecDepth 100000 in
theorem r_X8_body (l : Launch) (g : mG) (K : mK) (n : Nat) (hJ : mInj g n) (hO : mOk K n) (a0 : Nat) (a1 : Int32) (I0 : mI) (J0 : mJ) (R0 : mR) (out : Int32) (hf : f_X8_body K a0 a1 I0 J0 R0 = some out) : Met l yX8_body (mWs yX8_body cX8_body 2 (some .int)) ({ frames := 1, cells := 0, slots := 0, locals := 21 }) (va_Pc [.ref (g.2.1 a0), .int a1] (mB g K n I0 J0 R0)) (mQ g K n (some (.int out)) I0 J0 R0) 0 0 (mA g n) := by
  unfold f_X8_body at hf
  refine mStart RX8 hJ hO (by decide) rfl (Nat.le_of_ble_eq_true rfl) ?_
  intro p e s m below meth c ls Qm hQm B hr hlk hw hl
  have hx := B.1.1
  have hb := B.1.2.1
  have hl : lv_has ls 2 [(0, .ref (g.2.1 a0)), (1, .int a1)] := hl
  refine lv_aload_n hx hb dX8_body_0 rfl (lv_at hl 0 rfl) ?_
  obtain ⟨h1, hf⟩ := mChk hf
  obtain ⟨x2, e3, hf⟩ := mBind hf
  refine mgr B hw flX8_19 rfl h1 e3 dX8_body_1 ?_
  refine lv_iload_n hx hb dX8_body_4 rfl (lv_at hl 1 rfl) ?_
  obtain ⟨h4, hf⟩ := mChk hf
  obtain ⟨z5, e6, hf⟩ := mBind hf
  refine mcallV (rest := []) (ci := 0) B hw [.int a1] clX8_129 rfl h4 (r_X0_leaderOf l g K n hJ hO x2 a1 I0 J0 R0 z5 e6) ⟨rfl, rfl, Nat.le_of_ble_eq_true rfl, Nat.le_of_ble_eq_true rfl⟩ rfl hl.1 (Nat.le_of_ble_eq_true rfl) ⟨Nat.zero_le _, Nat.zero_le _⟩ dX8_body_5 (fun H locs hw => ?_)
  refine W.eq (g2 := F0 m 8 ls [.int z5]) rfl ?_
  rw [hQm, ← Option.some.inj hf]
  exact mri hx hb hr hlk hw dX8_body_8
def f_X8_told (K : mK) (a0 : Nat) (a1 : Int32) (a2 : Int32) (I0 : mI) (J0 : mJ) (R0 : mR) : Option (Int32 × mI) :=
  if K a0 = (0, 8) then
  (R0 a0 1).bind fun x2 =>
  if K x2 = (0, 0) then
  (f_X0_leaderOf K x2 a1 I0 J0 R0).bind fun z5 =>
  if z5 = (-1 : Int32) then
  some ((-1 : Int32), I0)
  else
  if a2 = (4 : Int32) then
  (f_X0_sizeOf K x2 z5 I0 J0 R0).bind fun z16 =>
  some (z16, I0)
  else
  (R0 a0 6).bind fun x9 =>
  (f_X0_gather K x2 z5 x9 I0 J0 R0).bind fun z11 =>
  if K x9 = (0, 1) then
  (f_X1_answer K x9 a2 z11 J0 R0).bind fun z14 =>
  some (z14, z11)
  else none
  else none
  else none
set_option maxHeartbeats 4000000 in
set_option maxRecDepth 100000 in
theorem r_X8_told (l : Launch) (g : mG) (K : mK) (n : Nat) (hJ : mInj g n) (hO : mOk K n) (a0 : Nat) (a1 : Int32) (a2 : Int32) (I0 : mI) (J0 : mJ) (R0 : mR) (out : (Int32 × mI)) (hf : f_X8_told K a0 a1 a2 I0 J0 R0 = some out) : Met l yX8_told (mWs yX8_told cX8_told 4 (some .int)) ({ frames := 3, cells := 0, slots := 0, locals := 66 }) (va_Pc [.ref (g.2.1 a0), .int a1, .int a2] (mB g K n I0 J0 R0)) (mQ g K n (some (.int out.1)) out.2 J0 R0) 0 0 (mA g n) := by
  unfold f_X8_told at hf
  refine mStart RX8 hJ hO (by decide) rfl (Nat.le_of_ble_eq_true rfl) ?_
  intro p e s m below meth c ls Qm hQm B hr hlk hw hl
  have hx := B.1.1
  have hb := B.1.2.1
  have hl : lv_has ls 4 [(0, .ref (g.2.1 a0)), (1, .int a1), (2, .int a2)] := hl
  refine lv_aload_n hx hb dX8_told_0 rfl (lv_at hl 0 rfl) ?_
  obtain ⟨h1, hf⟩ := mChk hf
  obtain ⟨x2, e3, hf⟩ := mBind hf
  refine mgr B hw flX8_19 rfl h1 e3 dX8_told_1 ?_
  refine lv_iload_n hx hb dX8_told_4 rfl (lv_at hl 1 rfl) ?_
  obtain ⟨h4, hf⟩ := mChk hf
  obtain ⟨z5, e6, hf⟩ := mBind hf
  refine mcallV (rest := []) (ci := 0) B hw [.int a1] clX8_129 rfl h4 (r_X0_leaderOf l g K n hJ hO x2 a1 I0 J0 R0 z5 e6) ⟨rfl, rfl, Nat.le_of_ble_eq_true rfl, Nat.le_of_ble_eq_true rfl⟩ rfl hl.1 (Nat.le_of_ble_eq_true rfl) ⟨Nat.zero_le _, Nat.zero_le _⟩ dX8_told_5 (fun H locs hw => ?_)
  refine W.eq (g2 := F0 m 8 ls [.int z5]) rfl ?_
  refine lv_istore_n (lv' := [(3, .int z5), (0, .ref (g.2.1 a0)), (1, .int a1), (2, .int a2)]) hx hb dX8_told_8 rfl hl (by decide) rfl (fun ls hl => ?_)
  refine lv_iload_n hx hb dX8_told_9 rfl (lv_at hl 0 rfl) ?_
  refine lv_iconst (v := (-1 : Int32)) hx hb dX8_told_10 (by decide) ?_
  refine lv_icmp_ne (tgt := 16) hx hb dX8_told_11 (by decide) (fun c7 => ?_) (fun c7 => ?_)
  · replace hf := mF1 c7 hf
    refine lv_iload_n hx hb dX8_told_16 rfl (lv_at hl 3 rfl) ?_
    refine lv_iconst (v := (4 : Int32)) hx hb dX8_told_17 (by decide) ?_
    refine lv_icmp_ne (tgt := 30) hx hb dX8_told_18 (by decide) (fun c8 => ?_) (fun c8 => ?_)
    · replace hf := mF1 c8 hf
      refine lv_aload_n hx hb dX8_told_30 rfl (lv_at hl 1 rfl) ?_
      refine mgr B hw flX8_19 rfl h1 e3 dX8_told_31 ?_
      refine lv_iload_n hx hb dX8_told_34 rfl (lv_at hl 0 rfl) ?_
      refine lv_aload_n hx hb dX8_told_35 rfl (lv_at hl 1 rfl) ?_
      obtain ⟨x9, e10, hf⟩ := mBind hf
      refine mgr B hw flX8_54 rfl h1 e10 dX8_told_36 ?_
      obtain ⟨z11, e12, hf⟩ := mBind hf
      refine mcallV (rest := []) (ci := 0) B hw [.int z5, .ref (g.2.1 x9)] clX8_132 rfl h4 (r_X0_gather l g K n hJ hO x2 z5 x9 I0 J0 R0 z11 e12) ⟨rfl, rfl, Nat.le_of_ble_eq_true rfl, Nat.le_of_ble_eq_true rfl⟩ rfl hl.1 (Nat.le_of_ble_eq_true rfl) ⟨Nat.zero_le _, Nat.zero_le _⟩ dX8_told_39 (fun H locs hw => ?_)
      refine W.eq (g2 := F0 m 42 ls []) rfl ?_
      refine lv_aload_n hx hb dX8_told_42 rfl (lv_at hl 1 rfl) ?_
      refine mgr B hw flX8_54 rfl h1 e10 dX8_told_43 ?_
      refine lv_iload_n hx hb dX8_told_46 rfl (lv_at hl 3 rfl) ?_
      obtain ⟨h13, hf⟩ := mChk hf
      obtain ⟨z14, e15, hf⟩ := mBind hf
      refine mcallV (rest := []) (ci := 1) B hw [.int a2] clX8_159 rfl h13 (r_X1_answer l g K n hJ hO x9 a2 z11 J0 R0 z14 e15) ⟨rfl, rfl, Nat.le_of_ble_eq_true rfl, Nat.le_of_ble_eq_true rfl⟩ rfl hl.1 (Nat.le_of_ble_eq_true rfl) ⟨Nat.zero_le _, Nat.zero_le _⟩ dX8_told_47 (fun H locs hw => ?_)
      refine W.eq (g2 := F0 m 50 ls [.int z14]) rfl ?_
      rw [hQm, ← Option.some.inj hf]
      exact mri hx hb hr hlk hw dX8_told_50
    · replace hf := mT1 c8 hf
      refine lv_aload_n hx hb dX8_told_21 rfl (lv_at hl 1 rfl) ?_
      refine mgr B hw flX8_19 rfl h1 e3 dX8_told_22 ?_
      refine lv_iload_n hx hb dX8_told_25 rfl (lv_at hl 0 rfl) ?_
      obtain ⟨z16, e17, hf⟩ := mBind hf
      refine mcallV (rest := []) (ci := 0) B hw [.int z5] clX8_156 rfl h4 (r_X0_sizeOf l g K n hJ hO x2 z5 I0 J0 R0 z16 e17) ⟨rfl, rfl, Nat.le_of_ble_eq_true rfl, Nat.le_of_ble_eq_true rfl⟩ rfl hl.1 (Nat.le_of_ble_eq_true rfl) ⟨Nat.zero_le _, Nat.zero_le _⟩ dX8_told_26 (fun H locs hw => ?_)
      refine W.eq (g2 := F0 m 29 ls [.int z16]) rfl ?_
      rw [hQm, ← Option.some.inj hf]
      exact mri hx hb hr hlk hw dX8_told_29
  · replace hf := mT1 c7 hf
    refine lv_iconst (v := (-1 : Int32)) hx hb dX8_told_14 (by decide) ?_
    rw [hQm, ← Option.some.inj hf]
    exact mri hx hb hr hlk hw dX8_told_15
def f_X8_barOf (K : mK) (a0 : Nat) (a1 : Int32) (a2 : Nat) (I0 : mI) (J0 : mJ) (R0 : mR) : Option (Int32 × mI) :=
  if K a0 = (0, 8) then
  (R0 a0 1).bind fun x2 =>
  (R0 a0 6).bind fun x4 =>
  if K x2 = (0, 0) then
  (f_X0_gather K x2 a1 x4 I0 J0 R0).bind fun z7 =>
  if K x4 = (0, 1) then
  (f_X1_barFrom K x4 a2 z7 J0 R0).bind fun z10 =>
  some (z10, z7)
  else none
  else none
  else none
set_option maxHeartbeats 4000000 in
set_option maxRecDepth 100000 in
theorem r_X8_barOf (l : Launch) (g : mG) (K : mK) (n : Nat) (hJ : mInj g n) (hO : mOk K n) (a0 : Nat) (a1 : Int32) (a2 : Nat) (I0 : mI) (J0 : mJ) (R0 : mR) (out : (Int32 × mI)) (hf : f_X8_barOf K a0 a1 a2 I0 J0 R0 = some out) : Met l yX8_barOf (mWs yX8_barOf cX8_barOf 3 (some .int)) ({ frames := 3, cells := 0, slots := 0, locals := 66 }) (va_Pc [.ref (g.2.1 a0), .int a1, .ref (g.2.1 a2)] (mB g K n I0 J0 R0)) (mQ g K n (some (.int out.1)) out.2 J0 R0) 0 0 (mA g n) := by
  unfold f_X8_barOf at hf
  refine mStart RX8 hJ hO (by decide) rfl (Nat.le_of_ble_eq_true rfl) ?_
  intro p e s m below meth c ls Qm hQm B hr hlk hw hl
  have hx := B.1.1
  have hb := B.1.2.1
  have hl : lv_has ls 3 [(0, .ref (g.2.1 a0)), (1, .int a1), (2, .ref (g.2.1 a2))] := hl
  refine lv_aload_n hx hb dX8_barOf_0 rfl (lv_at hl 0 rfl) ?_
  obtain ⟨h1, hf⟩ := mChk hf
  obtain ⟨x2, e3, hf⟩ := mBind hf
  refine mgr B hw flX8_19 rfl h1 e3 dX8_barOf_1 ?_
  refine lv_iload_n hx hb dX8_barOf_4 rfl (lv_at hl 1 rfl) ?_
  refine lv_aload_n hx hb dX8_barOf_5 rfl (lv_at hl 0 rfl) ?_
  obtain ⟨x4, e5, hf⟩ := mBind hf
  refine mgr B hw flX8_54 rfl h1 e5 dX8_barOf_6 ?_
  obtain ⟨h6, hf⟩ := mChk hf
  obtain ⟨z7, e8, hf⟩ := mBind hf
  refine mcallV (rest := []) (ci := 0) B hw [.int a1, .ref (g.2.1 x4)] clX8_132 rfl h6 (r_X0_gather l g K n hJ hO x2 a1 x4 I0 J0 R0 z7 e8) ⟨rfl, rfl, Nat.le_of_ble_eq_true rfl, Nat.le_of_ble_eq_true rfl⟩ rfl hl.1 (Nat.le_of_ble_eq_true rfl) ⟨Nat.zero_le _, Nat.zero_le _⟩ dX8_barOf_9 (fun H locs hw => ?_)
  refine W.eq (g2 := F0 m 12 ls []) rfl ?_
  refine lv_aload_n hx hb dX8_barOf_12 rfl (lv_at hl 0 rfl) ?_
  refine mgr B hw flX8_54 rfl h1 e5 dX8_barOf_13 ?_
  refine lv_aload_n hx hb dX8_barOf_16 rfl (lv_at hl 2 rfl) ?_
  obtain ⟨h9, hf⟩ := mChk hf
  obtain ⟨z10, e11, hf⟩ := mBind hf
  refine mcallV (rest := []) (ci := 1) B hw [.ref (g.2.1 a2)] clX8_239 rfl h9 (r_X1_barFrom l g K n hJ hO x4 a2 z7 J0 R0 z10 e11) ⟨rfl, rfl, Nat.le_of_ble_eq_true rfl, Nat.le_of_ble_eq_true rfl⟩ rfl hl.1 (Nat.le_of_ble_eq_true rfl) ⟨Nat.zero_le _, Nat.zero_le _⟩ dX8_barOf_17 (fun H locs hw => ?_)
  refine W.eq (g2 := F0 m 20 ls [.int z10]) rfl ?_
  rw [hQm, ← Option.some.inj hf]
  exact mri hx hb hr hlk hw dX8_barOf_20
def f_X8_shut (K : mK) (a0 : Nat) (a1 : Int32) (a2 : Int32) (I0 : mI) (J0 : mJ) (R0 : mR) : Option (Int32 × mI) :=
  if K a0 = (0, 8) then
  (R0 a0 1).bind fun x2 =>
  if K x2 = (0, 0) then
  (f_X0_leaderOf K x2 a1 I0 J0 R0).bind fun z5 =>
  (R0 a0 0).bind fun x7 =>
  if K x7 = (0, 2) then
  (f_X2_find K x7 a2 I0 J0 R0).bind fun z10 =>
  if z5 = (-1 : Int32) then
  some ((-1 : Int32), I0)
  else
  mON z10 (
  some ((-1 : Int32), I0)) (fun x13 =>
  (f_X8_barOf K a0 z5 x13 I0 J0 R0).bind fun z14 =>
  some (z14.1, z14.2))
  else none
  else none
  else none
set_option maxHeartbeats 4000000 in
set_option maxRecDepth 100000 in
theorem r_X8_shut (l : Launch) (g : mG) (K : mK) (n : Nat) (hJ : mInj g n) (hO : mOk K n) (a0 : Nat) (a1 : Int32) (a2 : Int32) (I0 : mI) (J0 : mJ) (R0 : mR) (out : (Int32 × mI)) (hf : f_X8_shut K a0 a1 a2 I0 J0 R0 = some out) : Met l yX8_shut (mWs yX8_shut cX8_shut 5 (some .int)) ({ frames := 4, cells := 0, slots := 0, locals := 88 }) (va_Pc [.ref (g.2.1 a0), .int a1, .int a2] (mB g K n I0 J0 R0)) (mQ g K n (some (.int out.1)) out.2 J0 R0) 0 0 (mA g n) := by
  unfold f_X8_shut at hf
  refine mStart RX8 hJ hO (by decide) rfl (Nat.le_of_ble_eq_true rfl) ?_
  intro p e s m below meth c ls Qm hQm B hr hlk hw hl
  have hx := B.1.1
  have hb := B.1.2.1
  have hl : lv_has ls 5 [(0, .ref (g.2.1 a0)), (1, .int a1), (2, .int a2)] := hl
  refine lv_aload_n hx hb dX8_shut_0 rfl (lv_at hl 0 rfl) ?_
  obtain ⟨h1, hf⟩ := mChk hf
  obtain ⟨x2, e3, hf⟩ := mBind hf
  refine mgr B hw flX8_19 rfl h1 e3 dX8_shut_1 ?_
  refine lv_iload_n hx hb dX8_shut_4 rfl (lv_at hl 1 rfl) ?_
  obtain ⟨h4, hf⟩ := mChk hf
  obtain ⟨z5, e6, hf⟩ := mBind hf
  refine mcallV (rest := []) (ci := 0) B hw [.int a1] clX8_129 rfl h4 (r_X0_leaderOf l g K n hJ hO x2 a1 I0 J0 R0 z5 e6) ⟨rfl, rfl, Nat.le_of_ble_eq_true rfl, Nat.le_of_ble_eq_true rfl⟩ rfl hl.1 (Nat.le_of_ble_eq_true rfl) ⟨Nat.zero_le _, Nat.zero_le _⟩ dX8_shut_5 (fun H locs hw => ?_)
  refine W.eq (g2 := F0 m 8 ls [.int z5]) rfl ?_
  refine lv_istore_n (lv' := [(3, .int z5), (0, .ref (g.2.1 a0)), (1, .int a1), (2, .int a2)]) hx hb dX8_shut_8 rfl hl (by decide) rfl (fun ls hl => ?_)
  refine lv_aload_n hx hb dX8_shut_9 rfl (lv_at hl 1 rfl) ?_
  obtain ⟨x7, e8, hf⟩ := mBind hf
  refine mgr B hw flX8_10 rfl h1 e8 dX8_shut_10 ?_
  refine lv_iload_n hx hb dX8_shut_13 rfl (lv_at hl 3 rfl) ?_
  obtain ⟨h9, hf⟩ := mChk hf
  obtain ⟨z10, e11, hf⟩ := mBind hf
  refine mcallV (rest := []) (ci := 2) B hw [.int a2] clX8_118 rfl h9 (r_X2_find l g K n hJ hO x7 a2 I0 J0 R0 z10 e11) ⟨rfl, rfl, Nat.le_of_ble_eq_true rfl, Nat.le_of_ble_eq_true rfl⟩ rfl hl.1 (Nat.le_of_ble_eq_true rfl) ⟨Nat.zero_le _, Nat.zero_le _⟩ dX8_shut_14 (fun H locs hw => ?_)
  refine W.eq (g2 := F0 m 17 ls [va_rf (Option.map g.2.1 z10)]) rfl ?_
  refine mso (lv' := [(4, va_rf (Option.map g.2.1 z10)), (3, .int z5), (0, .ref (g.2.1 a0)), (1, .int a1), (2, .int a2)]) hx hb dX8_shut_17 hl (by decide) rfl (fun ls hl => ?_)
  refine lv_iload_n hx hb dX8_shut_19 rfl (lv_at hl 1 rfl) ?_
  refine lv_iconst (v := (-1 : Int32)) hx hb dX8_shut_20 (by decide) ?_
  refine lv_icmp_eq (tgt := 29) hx hb dX8_shut_21 (by decide) (fun c12 => ?_) (fun c12 => ?_)
  · replace hf := mT1 c12 hf
    refine lv_iconst (v := (-1 : Int32)) hx hb dX8_shut_29 (by decide) ?_
    rw [hQm, ← Option.some.inj hf]
    exact mri hx hb hr hlk hw dX8_shut_30
  · replace hf := mF1 c12 hf
    refine mlo hx hb dX8_shut_24 (lv_at hl 0 rfl) ?_
    rcases z10 with _ | x13
    · replace hf := mON0 hf
      replace hl : lv_has ls 5 [(4, .null), (3, .int z5), (0, .ref (g.2.1 a0)), (1, .int a1), (2, .int a2)] := hl
      refine W.eq (g2 := F0 m 26 ls [.null]) rfl ?_
      refine lv_ifnonnullN hx hb dX8_shut_26 ?_
      refine lv_iconst (v := (-1 : Int32)) hx hb dX8_shut_29 (by decide) ?_
      rw [hQm, ← Option.some.inj hf]
      exact mri hx hb hr hlk hw dX8_shut_30
    · replace hf := mON1 hf
      replace hl : lv_has ls 5 [(4, .ref (g.2.1 x13)), (3, .int z5), (0, .ref (g.2.1 a0)), (1, .int a1), (2, .int a2)] := hl
      refine W.eq (g2 := F0 m 26 ls [.ref (g.2.1 x13)]) rfl ?_
      refine lv_ifnonnull (tgt := 31) hx hb dX8_shut_26 (by decide) ?_
      refine lv_aload_n hx hb dX8_shut_31 rfl (lv_at hl 2 rfl) ?_
      refine lv_iload_n hx hb dX8_shut_32 rfl (lv_at hl 1 rfl) ?_
      refine lv_aload hx hb dX8_shut_33 (lv_at hl 0 rfl) ?_
      obtain ⟨z14, e15, hf⟩ := mBind hf
      refine mcallV (rest := []) (ci := 8) B hw [.int z5, .ref (g.2.1 x13)] clX8_162 rfl h1 (r_X8_barOf l g K n hJ hO a0 z5 x13 I0 J0 R0 z14 e15) ⟨rfl, rfl, Nat.le_of_ble_eq_true rfl, Nat.le_of_ble_eq_true rfl⟩ rfl hl.1 (Nat.le_of_ble_eq_true rfl) ⟨Nat.zero_le _, Nat.zero_le _⟩ dX8_shut_35 (fun H locs hw => ?_)
      refine W.eq (g2 := F0 m 38 ls [.int z14.1]) rfl ?_
      rw [hQm, ← Option.some.inj hf]
      exact mri hx hb hr hlk hw dX8_shut_38
