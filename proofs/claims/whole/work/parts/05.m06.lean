def f_X9_shutOf_L98 (K : mK) (v0 : Nat) (v1 : Int32) (v2 : Int32) (I0 : mI) (J0 : mJ) (R0 : mR) : Nat → Int32 → Option (Int32 ⊕ Unit)
  | 0, _ => none
  | N + 1, v3 =>
  if (16 : Int32) ≤ v3 then
  some (Sum.inr ())
  else
  if K v0 = (0, 9) then
  (f_X9_ofBody K v0 v1 v3 I0 J0 R0).bind fun z3 =>
  (f_X9_ofMissing K v0 v2 v3 I0 J0 R0).bind fun z5 =>
  (f_X9_areUnlike K z3 z5 I0 J0 R0).bind fun z7 =>
  if (mb z7) = 0 then
  f_X9_shutOf_L98 K v0 v1 v2 I0 J0 R0 N (v3 + (1 : Int32))
  else
  some (Sum.inl (4 : Int32))
  else none
def f_X9_shutOf_L57 (K : mK) (v0 : Nat) (v1 : Int32) (v2 : Int32) (I0 : mI) (J0 : mJ) (R0 : mR) : Nat → Int32 → Option (Int32 ⊕ Unit)
  | 0, _ => none
  | N + 1, v3 =>
  if (9 : Int32) ≤ v3 then
  some (Sum.inr ())
  else
  if K v0 = (0, 9) then
  (f_X9_ofBody K v0 v1 v3 I0 J0 R0).bind fun z12 =>
  if z12 = 0 then
  f_X9_shutOf_L57 K v0 v1 v2 I0 J0 R0 N (v3 + (1 : Int32))
  else
  (f_X9_ofBody K v0 v1 v3 I0 J0 R0).bind fun z15 =>
  (f_X9_ofMissing K v0 v2 v3 I0 J0 R0).bind fun z17 =>
  if z17 ≤ z15 then
  f_X9_shutOf_L57 K v0 v1 v2 I0 J0 R0 N (v3 + (1 : Int32))
  else
  some (Sum.inl (3 : Int32))
  else none
def f_X9_shutOf_L132 (K : mK) (v0 : Nat) (v1 : Int32) (v2 : Int32) (I0 : mI) (J0 : mJ) (R0 : mR) : Nat → Int32 → Option (Int32 ⊕ Unit)
  | 0, _ => none
  | N + 1, v3 =>
  if (3 : Int32) ≤ v3 then
  some (Sum.inr ())
  else
  if K v0 = (0, 9) then
  (f_X9_ofBody K v0 v1 ((13 : Int32) + v3) I0 J0 R0).bind fun z22 =>
  (f_X9_ofMissing K v0 v2 ((16 : Int32) + v3) I0 J0 R0).bind fun z24 =>
  if z22 = 0 then
  f_X9_shutOf_L132 K v0 v1 v2 I0 J0 R0 N (v3 + (1 : Int32))
  else
  if z24 = 0 then
  f_X9_shutOf_L132 K v0 v1 v2 I0 J0 R0 N (v3 + (1 : Int32))
  else
  (f_X9_sharesNone K z22 z24 I0 J0 R0).bind fun z28 =>
  if (mb z28) = 0 then
  f_X9_shutOf_L132 K v0 v1 v2 I0 J0 R0 N (v3 + (1 : Int32))
  else
  some (Sum.inl (5 : Int32))
  else none
def f_X9_shutOf (K : mK) (a0 : Nat) (a1 : Int32) (a2 : Int32) (I0 : mI) (J0 : mJ) (R0 : mR) : Option Int32 :=
  if K a0 = (0, 9) then
  (f_X9_ofBody K a0 a1 (0 : Int32) I0 J0 R0).bind fun z32 =>
  (f_X9_ofMissing K a0 a2 (0 : Int32) I0 J0 R0).bind fun z34 =>
  (f_X9_areUnlike K z32 z34 I0 J0 R0).bind fun z36 =>
  if (mb z36) = 0 then
  (f_X9_ageOf K a0 a1 false I0 J0 R0).bind fun z39 =>
  (R0 a0 2).bind fun x41 =>
  if mIx K x41 1 a2 then
  (f_X9_ageOf K a0 a1 true I0 J0 R0).bind fun z44 =>
  (R0 a0 3).bind fun x46 =>
  if mIx K x46 1 a2 then
  if (imax z39 (I0 x41 (a2).toNatClampNeg)) ≤ (imin z44 (I0 x46 (a2).toNatClampNeg)) then
  (f_X9_shutOf_L57 K a0 a1 a2 I0 J0 R0 8192 (1 : Int32)).bind fun z50 => Sum.elim (fun o => some o) (fun w52 =>
  (f_X9_shutOf_L98 K a0 a1 a2 I0 J0 R0 8192 (13 : Int32)).bind fun z53 => Sum.elim (fun o => some o) (fun w55 =>
  (f_X9_shutOf_L132 K a0 a1 a2 I0 J0 R0 8192 (0 : Int32)).bind fun z56 => Sum.elim (fun o => some o) (fun w58 =>
  some (0 : Int32)) z56) z53) z50
  else
  some (2 : Int32)
  else none
  else none
  else
  some (1 : Int32)
  else none
set_option maxHeartbeats 4000000 in
set_option maxRecDepth 100000 in
theorem r_X9_shutOf (l : Launch) (g : mG) (K : mK) (n : Nat) (hJ : mInj g n) (hO : mOk K n) (a0 : Nat) (a1 : Int32) (a2 : Int32) (I0 : mI) (J0 : mJ) (R0 : mR) (out : Int32) (hf : f_X9_shutOf K a0 a1 a2 I0 J0 R0 = some out) : Met l yX9_shutOf (mWs yX9_shutOf cX9_shutOf 6 (some .int)) ({ frames := 2, cells := 0, slots := 0, locals := 45 }) (va_Pc [.ref (g.2.1 a0), .int a1, .int a2] (mB g K n I0 J0 R0)) (mQ g K n (some (.int out)) I0 J0 R0) 0 0 (mA g n) := by
  unfold f_X9_shutOf at hf
  refine mStart RX9 hJ hO (by decide) rfl (Nat.le_of_ble_eq_true rfl) ?_
  intro p e s m below meth c ls Qm hQm B hr hlk hw hl
  have hx := B.1.1
  have hb := B.1.2.1
  have hl : lv_has ls 6 [(0, .ref (g.2.1 a0)), (1, .int a1), (2, .int a2)] := hl
  have L98 : ∀ (N : Nat) (v0 : Nat) (v1 : Int32) (v2 : Int32) (v3 : Int32) (z : (Int32 ⊕ Unit)) (H : Heap) (locs : List Loc) (ls : Array Slot), f_X9_shutOf_L98 K v0 v1 v2 I0 J0 R0 N v3 = some z → mHp g K n s I0 J0 R0 H locs → lv_has ls 6 [(0, .ref (g.2.1 v0)), (1, .int v1), (2, .int v2), (3, .int v3)] → (∀ w, z = Sum.inr w → (∀ (H : Heap) (locs : List Loc) (ls : Array Slot), mHp g K n s I0 J0 R0 H locs → lv_has ls 6 [(0, .ref (g.2.1 v0)), (1, .int v1), (2, .int v2)] → W p l e ({ frames := 2, cells := 0, slots := 0, locals := 45 } : Room) s m ([.ref (g.2.1 a0), .int a1, .int a2] : List Value).toArray below meth c H locs 0 0 Qm (F0 m 130 ls []))) → (∀ o, z = Sum.inl o → o = out) → W p l e ({ frames := 2, cells := 0, slots := 0, locals := 45 } : Room) s m ([.ref (g.2.1 a0), .int a1, .int a2] : List Value).toArray below meth c H locs 0 0 Qm (F0 m 98 ls []) := by
    intro N
    induction N with
    | zero =>
      intro v0 v1 v2 v3  z H locs ls hf hw hl kx ko
      rw [f_X9_shutOf_L98] at hf
      cases hf
    | succ N ih =>
      intro v0 v1 v2 v3  z H locs ls hf hw hl kx ko
      rw [f_X9_shutOf_L98] at hf
      refine lv_iload_n hx hb dX9_shutOf_98 rfl (lv_at hl 3 rfl) ?_
      refine lv_bipush (v := (16 : Int32)) hx hb dX9_shutOf_99 (by decide) ?_
      refine lv_icmp_ge (tgt := 130) hx hb dX9_shutOf_101 (by decide) (fun c1 => ?_) (fun c1 => ?_)
      · replace hf := mT1 c1 hf
        obtain rfl := Option.some.inj hf
        exact kx _ rfl _ _ _ hw (lv_sub hl [0, 1, 2] rfl)
      · replace hf := mF1 c1 hf
        refine lv_aload_n hx hb dX9_shutOf_104 rfl (lv_at hl 0 rfl) ?_
        refine lv_iload_n hx hb dX9_shutOf_105 rfl (lv_at hl 1 rfl) ?_
        refine lv_iload_n hx hb dX9_shutOf_106 rfl (lv_at hl 3 rfl) ?_
        obtain ⟨h2, hf⟩ := mChk hf
        obtain ⟨z3, e4, hf⟩ := mBind hf
        refine mcallV (rest := []) (ci := 9) B hw [.int v1, .int v3] clX9_89 rfl h2 (r_X9_ofBody l g K n hJ hO v0 v1 v3 I0 J0 R0 z3 e4) ⟨rfl, rfl, Nat.le_of_ble_eq_true rfl, Nat.le_of_ble_eq_true rfl⟩ rfl hl.1 (Nat.le_of_ble_eq_true rfl) ⟨Nat.zero_le _, Nat.zero_le _⟩ dX9_shutOf_107 (fun H locs hw => ?_)
        refine W.eq (g2 := F0 m 110 ls [.int z3]) rfl ?_
        refine lv_aload_n hx hb dX9_shutOf_110 rfl (lv_at hl 0 rfl) ?_
        refine lv_iload_n hx hb dX9_shutOf_111 rfl (lv_at hl 2 rfl) ?_
        refine lv_iload_n hx hb dX9_shutOf_112 rfl (lv_at hl 3 rfl) ?_
        obtain ⟨z5, e6, hf⟩ := mBind hf
        refine mcallV (rest := [.int z3]) (ci := 9) B hw [.int v2, .int v3] clX9_109 rfl h2 (r_X9_ofMissing l g K n hJ hO v0 v2 v3 I0 J0 R0 z5 e6) ⟨rfl, rfl, Nat.le_of_ble_eq_true rfl, Nat.le_of_ble_eq_true rfl⟩ rfl hl.1 (Nat.le_of_ble_eq_true rfl) ⟨Nat.zero_le _, Nat.zero_le _⟩ dX9_shutOf_113 (fun H locs hw => ?_)
        refine W.eq (g2 := F0 m 116 ls [.int z5, .int z3]) rfl ?_
        obtain ⟨z7, e8, hf⟩ := mBind hf
        refine mcallS (rest := []) B hw [.int z3, .int z5] clX9_92 (r_X9_areUnlike l g K n hJ hO z3 z5 I0 J0 R0 z7 e8) ⟨rfl, rfl, Nat.le_of_ble_eq_true rfl, Nat.le_of_ble_eq_true rfl⟩ rfl hl.1 (Nat.le_of_ble_eq_true rfl) ⟨Nat.zero_le _, Nat.zero_le _⟩ dX9_shutOf_116 (fun H locs hw => ?_)
        refine W.eq (g2 := F0 m 119 ls [.int (mb z7)]) rfl ?_
        refine lv_if_eq (tgt := 124) hx hb dX9_shutOf_119 (by decide) (fun c9 => ?_) (fun c9 => ?_)
        · replace hf := mT1 c9 hf
          refine lv_iinc (v := (v3 + (1 : Int32))) (lv' := [(3, .int (v3 + (1 : Int32))), (0, .ref (g.2.1 v0)), (1, .int v1), (2, .int v2)]) hx hb dX9_shutOf_124 hl (k := 3) rfl rfl (by decide) rfl (fun ls hl => ?_)
          refine lv_goto (tgt := 98) hx hb dX9_shutOf_127 (by decide) ?_
          exact ih v0 v1 v2 (v3 + (1 : Int32)) z _ _ _ hf hw (lv_sub hl [1, 2, 3, 0] rfl) kx ko
        · replace hf := mF1 c9 hf
          refine lv_iconst (v := (4 : Int32)) hx hb dX9_shutOf_122 (by decide) ?_
          rw [hQm, ← ko _ (Option.some.inj hf).symm]
          exact mri hx hb hr hlk hw dX9_shutOf_123
  have L57 : ∀ (N : Nat) (v0 : Nat) (v1 : Int32) (v2 : Int32) (v3 : Int32) (z : (Int32 ⊕ Unit)) (H : Heap) (locs : List Loc) (ls : Array Slot), f_X9_shutOf_L57 K v0 v1 v2 I0 J0 R0 N v3 = some z → mHp g K n s I0 J0 R0 H locs → lv_has ls 6 [(0, .ref (g.2.1 v0)), (1, .int v1), (2, .int v2), (3, .int v3)] → (∀ w, z = Sum.inr w → (∀ (H : Heap) (locs : List Loc) (ls : Array Slot), mHp g K n s I0 J0 R0 H locs → lv_has ls 6 [(0, .ref (g.2.1 v0)), (1, .int v1), (2, .int v2)] → W p l e ({ frames := 2, cells := 0, slots := 0, locals := 45 } : Room) s m ([.ref (g.2.1 a0), .int a1, .int a2] : List Value).toArray below meth c H locs 0 0 Qm (F0 m 95 ls []))) → (∀ o, z = Sum.inl o → o = out) → W p l e ({ frames := 2, cells := 0, slots := 0, locals := 45 } : Room) s m ([.ref (g.2.1 a0), .int a1, .int a2] : List Value).toArray below meth c H locs 0 0 Qm (F0 m 57 ls []) := by
    intro N
    induction N with
    | zero =>
      intro v0 v1 v2 v3  z H locs ls hf hw hl kx ko
      rw [f_X9_shutOf_L57] at hf
      cases hf
    | succ N ih =>
      intro v0 v1 v2 v3  z H locs ls hf hw hl kx ko
      rw [f_X9_shutOf_L57] at hf
      refine lv_iload_n hx hb dX9_shutOf_57 rfl (lv_at hl 3 rfl) ?_
      refine lv_bipush (v := (9 : Int32)) hx hb dX9_shutOf_58 (by decide) ?_
      refine lv_icmp_ge (tgt := 95) hx hb dX9_shutOf_60 (by decide) (fun c10 => ?_) (fun c10 => ?_)
      · replace hf := mT1 c10 hf
        obtain rfl := Option.some.inj hf
        exact kx _ rfl _ _ _ hw (lv_sub hl [0, 1, 2] rfl)
      · replace hf := mF1 c10 hf
        refine lv_aload_n hx hb dX9_shutOf_63 rfl (lv_at hl 0 rfl) ?_
        refine lv_iload_n hx hb dX9_shutOf_64 rfl (lv_at hl 1 rfl) ?_
        refine lv_iload_n hx hb dX9_shutOf_65 rfl (lv_at hl 3 rfl) ?_
        obtain ⟨h11, hf⟩ := mChk hf
        obtain ⟨z12, e13, hf⟩ := mBind hf
        refine mcallV (rest := []) (ci := 9) B hw [.int v1, .int v3] clX9_89 rfl h11 (r_X9_ofBody l g K n hJ hO v0 v1 v3 I0 J0 R0 z12 e13) ⟨rfl, rfl, Nat.le_of_ble_eq_true rfl, Nat.le_of_ble_eq_true rfl⟩ rfl hl.1 (Nat.le_of_ble_eq_true rfl) ⟨Nat.zero_le _, Nat.zero_le _⟩ dX9_shutOf_66 (fun H locs hw => ?_)
        refine W.eq (g2 := F0 m 69 ls [.int z12]) rfl ?_
        refine lv_if_eq (tgt := 89) hx hb dX9_shutOf_69 (by decide) (fun c14 => ?_) (fun c14 => ?_)
        · replace hf := mT1 c14 hf
          refine lv_iinc (v := (v3 + (1 : Int32))) (lv' := [(3, .int (v3 + (1 : Int32))), (0, .ref (g.2.1 v0)), (1, .int v1), (2, .int v2)]) hx hb dX9_shutOf_89 hl (k := 3) rfl rfl (by decide) rfl (fun ls hl => ?_)
          refine lv_goto (tgt := 57) hx hb dX9_shutOf_92 (by decide) ?_
          exact ih v0 v1 v2 (v3 + (1 : Int32)) z _ _ _ hf hw (lv_sub hl [1, 2, 3, 0] rfl) kx ko
        · replace hf := mF1 c14 hf
          refine lv_aload_n hx hb dX9_shutOf_72 rfl (lv_at hl 0 rfl) ?_
          refine lv_iload_n hx hb dX9_shutOf_73 rfl (lv_at hl 1 rfl) ?_
          refine lv_iload_n hx hb dX9_shutOf_74 rfl (lv_at hl 3 rfl) ?_
          obtain ⟨z15, e16, hf⟩ := mBind hf
          refine mcallV (rest := []) (ci := 9) B hw [.int v1, .int v3] clX9_89 rfl h11 (r_X9_ofBody l g K n hJ hO v0 v1 v3 I0 J0 R0 z15 e16) ⟨rfl, rfl, Nat.le_of_ble_eq_true rfl, Nat.le_of_ble_eq_true rfl⟩ rfl hl.1 (Nat.le_of_ble_eq_true rfl) ⟨Nat.zero_le _, Nat.zero_le _⟩ dX9_shutOf_75 (fun H locs hw => ?_)
          refine W.eq (g2 := F0 m 78 ls [.int z15]) rfl ?_
          refine lv_aload_n hx hb dX9_shutOf_78 rfl (lv_at hl 0 rfl) ?_
          refine lv_iload_n hx hb dX9_shutOf_79 rfl (lv_at hl 2 rfl) ?_
          refine lv_iload_n hx hb dX9_shutOf_80 rfl (lv_at hl 3 rfl) ?_
          obtain ⟨z17, e18, hf⟩ := mBind hf
          refine mcallV (rest := [.int z15]) (ci := 9) B hw [.int v2, .int v3] clX9_109 rfl h11 (r_X9_ofMissing l g K n hJ hO v0 v2 v3 I0 J0 R0 z17 e18) ⟨rfl, rfl, Nat.le_of_ble_eq_true rfl, Nat.le_of_ble_eq_true rfl⟩ rfl hl.1 (Nat.le_of_ble_eq_true rfl) ⟨Nat.zero_le _, Nat.zero_le _⟩ dX9_shutOf_81 (fun H locs hw => ?_)
          refine W.eq (g2 := F0 m 84 ls [.int z17, .int z15]) rfl ?_
          refine lv_icmp_ge (tgt := 89) hx hb dX9_shutOf_84 (by decide) (fun c19 => ?_) (fun c19 => ?_)
          · replace hf := mT1 c19 hf
            refine lv_iinc (v := (v3 + (1 : Int32))) (lv' := [(3, .int (v3 + (1 : Int32))), (0, .ref (g.2.1 v0)), (1, .int v1), (2, .int v2)]) hx hb dX9_shutOf_89 hl (k := 3) rfl rfl (by decide) rfl (fun ls hl => ?_)
            refine lv_goto (tgt := 57) hx hb dX9_shutOf_92 (by decide) ?_
            exact ih v0 v1 v2 (v3 + (1 : Int32)) z _ _ _ hf hw (lv_sub hl [1, 2, 3, 0] rfl) kx ko
          · replace hf := mF1 c19 hf
            refine lv_iconst (v := (3 : Int32)) hx hb dX9_shutOf_87 (by decide) ?_
            rw [hQm, ← ko _ (Option.some.inj hf).symm]
            exact mri hx hb hr hlk hw dX9_shutOf_88
  have L132 : ∀ (N : Nat) (v0 : Nat) (v1 : Int32) (v2 : Int32) (v3 : Int32) (z : (Int32 ⊕ Unit)) (H : Heap) (locs : List Loc) (ls : Array Slot), f_X9_shutOf_L132 K v0 v1 v2 I0 J0 R0 N v3 = some z → mHp g K n s I0 J0 R0 H locs → lv_has ls 6 [(0, .ref (g.2.1 v0)), (1, .int v1), (2, .int v2), (3, .int v3)] → (∀ w, z = Sum.inr w → (∀ (H : Heap) (locs : List Loc) (ls : Array Slot), mHp g K n s I0 J0 R0 H locs → lv_has ls 6 [] → W p l e ({ frames := 2, cells := 0, slots := 0, locals := 45 } : Room) s m ([.ref (g.2.1 a0), .int a1, .int a2] : List Value).toArray below meth c H locs 0 0 Qm (F0 m 187 ls []))) → (∀ o, z = Sum.inl o → o = out) → W p l e ({ frames := 2, cells := 0, slots := 0, locals := 45 } : Room) s m ([.ref (g.2.1 a0), .int a1, .int a2] : List Value).toArray below meth c H locs 0 0 Qm (F0 m 132 ls []) := by
    intro N
    induction N with
    | zero =>
      intro v0 v1 v2 v3  z H locs ls hf hw hl kx ko
      rw [f_X9_shutOf_L132] at hf
      cases hf
    | succ N ih =>
      intro v0 v1 v2 v3  z H locs ls hf hw hl kx ko
      rw [f_X9_shutOf_L132] at hf
      refine lv_iload_n hx hb dX9_shutOf_132 rfl (lv_at hl 3 rfl) ?_
      refine lv_iconst (v := (3 : Int32)) hx hb dX9_shutOf_133 (by decide) ?_
      refine lv_icmp_ge (tgt := 187) hx hb dX9_shutOf_134 (by decide) (fun c20 => ?_) (fun c20 => ?_)
      · replace hf := mT1 c20 hf
        obtain rfl := Option.some.inj hf
        exact kx _ rfl _ _ _ hw (lv_sub hl [] rfl)
      · replace hf := mF1 c20 hf
        refine lv_aload_n hx hb dX9_shutOf_137 rfl (lv_at hl 0 rfl) ?_
        refine lv_iload_n hx hb dX9_shutOf_138 rfl (lv_at hl 1 rfl) ?_
        refine lv_bipush (v := (13 : Int32)) hx hb dX9_shutOf_139 (by decide) ?_
        refine lv_iload_n hx hb dX9_shutOf_141 rfl (lv_at hl 3 rfl) ?_
        refine lv_iadd hx hb dX9_shutOf_142 ?_
        obtain ⟨h21, hf⟩ := mChk hf
        obtain ⟨z22, e23, hf⟩ := mBind hf
        refine mcallV (rest := []) (ci := 9) B hw [.int v1, .int ((13 : Int32) + v3)] clX9_89 rfl h21 (r_X9_ofBody l g K n hJ hO v0 v1 ((13 : Int32) + v3) I0 J0 R0 z22 e23) ⟨rfl, rfl, Nat.le_of_ble_eq_true rfl, Nat.le_of_ble_eq_true rfl⟩ rfl hl.1 (Nat.le_of_ble_eq_true rfl) ⟨Nat.zero_le _, Nat.zero_le _⟩ dX9_shutOf_143 (fun H locs hw => ?_)
        refine W.eq (g2 := F0 m 146 ls [.int z22]) rfl ?_
        refine lv_istore (lv' := [(4, .int z22), (0, .ref (g.2.1 v0)), (1, .int v1), (2, .int v2), (3, .int v3)]) hx hb dX9_shutOf_146 hl (by decide) rfl (fun ls hl => ?_)
        refine lv_aload_n hx hb dX9_shutOf_148 rfl (lv_at hl 1 rfl) ?_
        refine lv_iload_n hx hb dX9_shutOf_149 rfl (lv_at hl 3 rfl) ?_
        refine lv_bipush (v := (16 : Int32)) hx hb dX9_shutOf_150 (by decide) ?_
        refine lv_iload_n hx hb dX9_shutOf_152 rfl (lv_at hl 4 rfl) ?_
        refine lv_iadd hx hb dX9_shutOf_153 ?_
        obtain ⟨z24, e25, hf⟩ := mBind hf
        refine mcallV (rest := []) (ci := 9) B hw [.int v2, .int ((16 : Int32) + v3)] clX9_109 rfl h21 (r_X9_ofMissing l g K n hJ hO v0 v2 ((16 : Int32) + v3) I0 J0 R0 z24 e25) ⟨rfl, rfl, Nat.le_of_ble_eq_true rfl, Nat.le_of_ble_eq_true rfl⟩ rfl hl.1 (Nat.le_of_ble_eq_true rfl) ⟨Nat.zero_le _, Nat.zero_le _⟩ dX9_shutOf_154 (fun H locs hw => ?_)
        refine W.eq (g2 := F0 m 157 ls [.int z24]) rfl ?_
        refine lv_istore (lv' := [(5, .int z24), (4, .int z22), (0, .ref (g.2.1 v0)), (1, .int v1), (2, .int v2), (3, .int v3)]) hx hb dX9_shutOf_157 hl (by decide) rfl (fun ls hl => ?_)
        refine lv_iload hx hb dX9_shutOf_159 (lv_at hl 1 rfl) ?_
        refine lv_if_eq (tgt := 181) hx hb dX9_shutOf_161 (by decide) (fun c26 => ?_) (fun c26 => ?_)
        · replace hf := mT1 c26 hf
          refine lv_iinc (v := (v3 + (1 : Int32))) (lv' := [(3, .int (v3 + (1 : Int32))), (5, .int z24), (4, .int z22), (0, .ref (g.2.1 v0)), (1, .int v1), (2, .int v2)]) hx hb dX9_shutOf_181 hl (k := 5) rfl rfl (by decide) rfl (fun ls hl => ?_)
          refine lv_goto (tgt := 132) hx hb dX9_shutOf_184 (by decide) ?_
          exact ih v0 v1 v2 (v3 + (1 : Int32)) z _ _ _ hf hw (lv_sub hl [3, 4, 5, 0] rfl) kx ko
        · replace hf := mF1 c26 hf
          refine lv_iload hx hb dX9_shutOf_164 (lv_at hl 0 rfl) ?_
          refine lv_if_eq (tgt := 181) hx hb dX9_shutOf_166 (by decide) (fun c27 => ?_) (fun c27 => ?_)
          · replace hf := mT1 c27 hf
            refine lv_iinc (v := (v3 + (1 : Int32))) (lv' := [(3, .int (v3 + (1 : Int32))), (5, .int z24), (4, .int z22), (0, .ref (g.2.1 v0)), (1, .int v1), (2, .int v2)]) hx hb dX9_shutOf_181 hl (k := 5) rfl rfl (by decide) rfl (fun ls hl => ?_)
            refine lv_goto (tgt := 132) hx hb dX9_shutOf_184 (by decide) ?_
            exact ih v0 v1 v2 (v3 + (1 : Int32)) z _ _ _ hf hw (lv_sub hl [3, 4, 5, 0] rfl) kx ko
          · replace hf := mF1 c27 hf
            refine lv_iload hx hb dX9_shutOf_169 (lv_at hl 1 rfl) ?_
            refine lv_iload hx hb dX9_shutOf_171 (lv_at hl 0 rfl) ?_
            obtain ⟨z28, e29, hf⟩ := mBind hf
            refine mcallS (rest := []) B hw [.int z22, .int z24] clX9_112 (r_X9_sharesNone l g K n hJ hO z22 z24 I0 J0 R0 z28 e29) ⟨rfl, rfl, Nat.le_of_ble_eq_true rfl, Nat.le_of_ble_eq_true rfl⟩ rfl hl.1 (Nat.le_of_ble_eq_true rfl) ⟨Nat.zero_le _, Nat.zero_le _⟩ dX9_shutOf_173 (fun H locs hw => ?_)
            refine W.eq (g2 := F0 m 176 ls [.int (mb z28)]) rfl ?_
            refine lv_if_eq (tgt := 181) hx hb dX9_shutOf_176 (by decide) (fun c30 => ?_) (fun c30 => ?_)
            · replace hf := mT1 c30 hf
              refine lv_iinc (v := (v3 + (1 : Int32))) (lv' := [(3, .int (v3 + (1 : Int32))), (5, .int z24), (4, .int z22), (0, .ref (g.2.1 v0)), (1, .int v1), (2, .int v2)]) hx hb dX9_shutOf_181 hl (k := 5) rfl rfl (by decide) rfl (fun ls hl => ?_)
              refine lv_goto (tgt := 132) hx hb dX9_shutOf_184 (by decide) ?_
              exact ih v0 v1 v2 (v3 + (1 : Int32)) z _ _ _ hf hw (lv_sub hl [3, 4, 5, 0] rfl) kx ko
            · replace hf := mF1 c30 hf
              refine lv_iconst (v := (5 : Int32)) hx hb dX9_shutOf_179 (by decide) ?_
              rw [hQm, ← ko _ (Option.some.inj hf).symm]
              exact mri hx hb hr hlk hw dX9_shutOf_180
  refine lv_aload_n hx hb dX9_shutOf_0 rfl (lv_at hl 0 rfl) ?_
  refine lv_iload_n hx hb dX9_shutOf_1 rfl (lv_at hl 1 rfl) ?_
  refine lv_iconst (v := (0 : Int32)) hx hb dX9_shutOf_2 (by decide) ?_
  obtain ⟨h31, hf⟩ := mChk hf
  obtain ⟨z32, e33, hf⟩ := mBind hf
  refine mcallV (rest := []) (ci := 9) B hw [.int a1, .int (0 : Int32)] clX9_89 rfl h31 (r_X9_ofBody l g K n hJ hO a0 a1 (0 : Int32) I0 J0 R0 z32 e33) ⟨rfl, rfl, Nat.le_of_ble_eq_true rfl, Nat.le_of_ble_eq_true rfl⟩ rfl hl.1 (Nat.le_of_ble_eq_true rfl) ⟨Nat.zero_le _, Nat.zero_le _⟩ dX9_shutOf_3 (fun H locs hw => ?_)
  refine W.eq (g2 := F0 m 6 ls [.int z32]) rfl ?_
  refine lv_aload_n hx hb dX9_shutOf_6 rfl (lv_at hl 0 rfl) ?_
  refine lv_iload_n hx hb dX9_shutOf_7 rfl (lv_at hl 2 rfl) ?_
  refine lv_iconst (v := (0 : Int32)) hx hb dX9_shutOf_8 (by decide) ?_
  obtain ⟨z34, e35, hf⟩ := mBind hf
  refine mcallV (rest := [.int z32]) (ci := 9) B hw [.int a2, .int (0 : Int32)] clX9_109 rfl h31 (r_X9_ofMissing l g K n hJ hO a0 a2 (0 : Int32) I0 J0 R0 z34 e35) ⟨rfl, rfl, Nat.le_of_ble_eq_true rfl, Nat.le_of_ble_eq_true rfl⟩ rfl hl.1 (Nat.le_of_ble_eq_true rfl) ⟨Nat.zero_le _, Nat.zero_le _⟩ dX9_shutOf_9 (fun H locs hw => ?_)
  refine W.eq (g2 := F0 m 12 ls [.int z34, .int z32]) rfl ?_
  obtain ⟨z36, e37, hf⟩ := mBind hf
  refine mcallS (rest := []) B hw [.int z32, .int z34] clX9_92 (r_X9_areUnlike l g K n hJ hO z32 z34 I0 J0 R0 z36 e37) ⟨rfl, rfl, Nat.le_of_ble_eq_true rfl, Nat.le_of_ble_eq_true rfl⟩ rfl hl.1 (Nat.le_of_ble_eq_true rfl) ⟨Nat.zero_le _, Nat.zero_le _⟩ dX9_shutOf_12 (fun H locs hw => ?_)
  refine W.eq (g2 := F0 m 15 ls [.int (mb z36)]) rfl ?_
  refine lv_if_eq (tgt := 20) hx hb dX9_shutOf_15 (by decide) (fun c38 => ?_) (fun c38 => ?_)
  · replace hf := mT1 c38 hf
    refine lv_aload_n hx hb dX9_shutOf_20 rfl (lv_at hl 0 rfl) ?_
    refine lv_iload_n hx hb dX9_shutOf_21 rfl (lv_at hl 1 rfl) ?_
    refine lv_iconst (v := (0 : Int32)) hx hb dX9_shutOf_22 (by decide) ?_
    obtain ⟨z39, e40, hf⟩ := mBind hf
    refine mcallV (rest := []) (ci := 9) B hw [.int a1, .int (mb false)] clX9_95 rfl h31 (r_X9_ageOf l g K n hJ hO a0 a1 false I0 J0 R0 z39 e40) ⟨rfl, rfl, Nat.le_of_ble_eq_true rfl, Nat.le_of_ble_eq_true rfl⟩ rfl hl.1 (Nat.le_of_ble_eq_true rfl) ⟨Nat.zero_le _, Nat.zero_le _⟩ dX9_shutOf_23 (fun H locs hw => ?_)
    refine W.eq (g2 := F0 m 26 ls [.int z39]) rfl ?_
    refine lv_aload_n hx hb dX9_shutOf_26 rfl (lv_at hl 0 rfl) ?_
    obtain ⟨x41, e42, hf⟩ := mBind hf
    refine mgr B hw flX9_16 rfl h31 e42 dX9_shutOf_27 ?_
    refine lv_iload_n hx hb dX9_shutOf_30 rfl (lv_at hl 2 rfl) ?_
    obtain ⟨h43, hf⟩ := mChk hf
    refine mld1 B hw h43 dX9_shutOf_31 ?_
    refine mmmax B hl.1 mhX9_82 (Nat.le_of_ble_eq_true rfl) (Nat.le_of_ble_eq_true rfl) (Nat.zero_le _) (Nat.zero_le _) dX9_shutOf_32 ?_
    refine lv_aload_n hx hb dX9_shutOf_35 rfl (lv_at hl 0 rfl) ?_
    refine lv_iload_n hx hb dX9_shutOf_36 rfl (lv_at hl 1 rfl) ?_
    refine lv_iconst (v := (1 : Int32)) hx hb dX9_shutOf_37 (by decide) ?_
    obtain ⟨z44, e45, hf⟩ := mBind hf
    refine mcallV (rest := [.int (imax z39 (I0 x41 (a2).toNatClampNeg))]) (ci := 9) B hw [.int a1, .int (mb true)] clX9_95 rfl h31 (r_X9_ageOf l g K n hJ hO a0 a1 true I0 J0 R0 z44 e45) ⟨rfl, rfl, Nat.le_of_ble_eq_true rfl, Nat.le_of_ble_eq_true rfl⟩ rfl hl.1 (Nat.le_of_ble_eq_true rfl) ⟨Nat.zero_le _, Nat.zero_le _⟩ dX9_shutOf_38 (fun H locs hw => ?_)
    refine W.eq (g2 := F0 m 41 ls [.int z44, .int (imax z39 (I0 x41 (a2).toNatClampNeg))]) rfl ?_
    refine lv_aload_n hx hb dX9_shutOf_41 rfl (lv_at hl 0 rfl) ?_
    obtain ⟨x46, e47, hf⟩ := mBind hf
    refine mgr B hw flX9_19 rfl h31 e47 dX9_shutOf_42 ?_
    refine lv_iload_n hx hb dX9_shutOf_45 rfl (lv_at hl 2 rfl) ?_
    obtain ⟨h48, hf⟩ := mChk hf
    refine mld1 B hw h48 dX9_shutOf_46 ?_
    refine mmmin B hl.1 mhX9_76 (Nat.le_of_ble_eq_true rfl) (Nat.le_of_ble_eq_true rfl) (Nat.zero_le _) (Nat.zero_le _) dX9_shutOf_47 ?_
    refine lv_icmp_le (tgt := 55) hx hb dX9_shutOf_50 (by decide) (fun c49 => ?_) (fun c49 => ?_)
    · replace hf := mT1 c49 hf
      refine lv_iconst (v := (1 : Int32)) hx hb dX9_shutOf_55 (by decide) ?_
      refine lv_istore_n (lv' := [(3, .int (1 : Int32)), (0, .ref (g.2.1 a0)), (1, .int a1), (2, .int a2)]) hx hb dX9_shutOf_56 rfl hl (by decide) rfl (fun ls hl => ?_)
      obtain ⟨z50, e51, hf⟩ := mBind hf
      refine L57 8192 a0 a1 a2 (1 : Int32) z50 _ _ _ e51 hw (lv_sub hl [1, 2, 3, 0] rfl) (fun w52 hw9 H locs ls hw hl => ?_) (fun o ho => ?_)
      · subst hw9
        replace hf := mInr hf
        refine lv_bipush (v := (13 : Int32)) hx hb dX9_shutOf_95 (by decide) ?_
        refine lv_istore_n (lv' := [(3, .int (13 : Int32)), (0, .ref (g.2.1 a0)), (1, .int a1), (2, .int a2)]) hx hb dX9_shutOf_97 rfl hl (by decide) rfl (fun ls hl => ?_)
        obtain ⟨z53, e54, hf⟩ := mBind hf
        refine L98 8192 a0 a1 a2 (13 : Int32) z53 _ _ _ e54 hw (lv_sub hl [1, 2, 3, 0] rfl) (fun w55 hw9 H locs ls hw hl => ?_) (fun o ho => ?_)
        · subst hw9
          replace hf := mInr hf
          refine lv_iconst (v := (0 : Int32)) hx hb dX9_shutOf_130 (by decide) ?_
          refine lv_istore_n (lv' := [(3, .int (0 : Int32)), (0, .ref (g.2.1 a0)), (1, .int a1), (2, .int a2)]) hx hb dX9_shutOf_131 rfl hl (by decide) rfl (fun ls hl => ?_)
          obtain ⟨z56, e57, hf⟩ := mBind hf
          refine L132 8192 a0 a1 a2 (0 : Int32) z56 _ _ _ e57 hw (lv_sub hl [1, 2, 3, 0] rfl) (fun w58 hw9 H locs ls hw hl => ?_) (fun o ho => ?_)
          · subst hw9
            replace hf := mInr hf
            refine lv_iconst (v := (0 : Int32)) hx hb dX9_shutOf_187 (by decide) ?_
            rw [hQm, ← Option.some.inj hf]
            exact mri hx hb hr hlk hw dX9_shutOf_188
          · subst ho
            exact Option.some.inj (mInl hf)
        · subst ho
          exact Option.some.inj (mInl hf)
      · subst ho
        exact Option.some.inj (mInl hf)
    · replace hf := mF1 c49 hf
      refine lv_iconst (v := (2 : Int32)) hx hb dX9_shutOf_53 (by decide) ?_
      rw [hQm, ← Option.some.inj hf]
      exact mri hx hb hr hlk hw dX9_shutOf_54
  · replace hf := mF1 c38 hf
    refine lv_iconst (v := (1 : Int32)) hx hb dX9_shutOf_18 (by decide) ?_
    rw [hQm, ← Option.some.inj hf]
    exact mri hx hb hr hlk hw dX9_shutOf_19
def f_X9_isPair (K : mK) (a0 : Nat) (a1 : Int32) (a2 : Int32) (I0 : mI) (J0 : mJ) (R0 : mR) : Option Bool :=
  if K a0 = (0, 9) then
  (f_X9_isFile K a0 (1 : Int32) a1 I0 J0 R0).bind fun z2 =>
  if (mb z2) = 0 then
  some false
  else
  (f_X9_isFile K a0 (0 : Int32) a2 I0 J0 R0).bind fun z5 =>
  if (mb z5) = 0 then
  some false
  else
  some true
  else none
set_option maxHeartbeats 4000000 in
set_option maxRecDepth 100000 in
theorem r_X9_isPair (l : Launch) (g : mG) (K : mK) (n : Nat) (hJ : mInj g n) (hO : mOk K n) (a0 : Nat) (a1 : Int32) (a2 : Int32) (I0 : mI) (J0 : mJ) (R0 : mR) (out : Bool) (hf : f_X9_isPair K a0 a1 a2 I0 J0 R0 = some out) : Met l yX9_isPair (mWs yX9_isPair cX9_isPair 3 (some .boolean)) ({ frames := 2, cells := 0, slots := 0, locals := 44 }) (va_Pc [.ref (g.2.1 a0), .int a1, .int a2] (mB g K n I0 J0 R0)) (mQ g K n (some (.int (mb out))) I0 J0 R0) 0 0 (mA g n) := by
  unfold f_X9_isPair at hf
  refine mStart RX9 hJ hO (by decide) rfl (Nat.le_of_ble_eq_true rfl) ?_
  intro p e s m below meth c ls Qm hQm B hr hlk hw hl
  have hx := B.1.1
  have hb := B.1.2.1
  have hl : lv_has ls 3 [(0, .ref (g.2.1 a0)), (1, .int a1), (2, .int a2)] := hl
  refine lv_aload_n hx hb dX9_isPair_0 rfl (lv_at hl 0 rfl) ?_
  refine lv_iconst (v := (1 : Int32)) hx hb dX9_isPair_1 (by decide) ?_
  refine lv_iload_n hx hb dX9_isPair_2 rfl (lv_at hl 1 rfl) ?_
  obtain ⟨h1, hf⟩ := mChk hf
  obtain ⟨z2, e3, hf⟩ := mBind hf
  refine mcallV (rest := []) (ci := 9) B hw [.int (1 : Int32), .int a1] clX9_68 rfl h1 (r_X9_isFile l g K n hJ hO a0 (1 : Int32) a1 I0 J0 R0 z2 e3) ⟨rfl, rfl, Nat.le_of_ble_eq_true rfl, Nat.le_of_ble_eq_true rfl⟩ rfl hl.1 (Nat.le_of_ble_eq_true rfl) ⟨Nat.zero_le _, Nat.zero_le _⟩ dX9_isPair_3 (fun H locs hw => ?_)
  refine W.eq (g2 := F0 m 6 ls [.int (mb z2)]) rfl ?_
  refine lv_if_eq (tgt := 22) hx hb dX9_isPair_6 (by decide) (fun c4 => ?_) (fun c4 => ?_)
  · replace hf := mT1 c4 hf
    refine lv_iconst (v := (0 : Int32)) hx hb dX9_isPair_22 (by decide) ?_
    rw [hQm, ← Option.some.inj hf]
    exact mrz (v := false) hx hb hr hlk hw dX9_isPair_23
  · replace hf := mF1 c4 hf
    refine lv_aload_n hx hb dX9_isPair_9 rfl (lv_at hl 0 rfl) ?_
    refine lv_iconst (v := (0 : Int32)) hx hb dX9_isPair_10 (by decide) ?_
    refine lv_iload_n hx hb dX9_isPair_11 rfl (lv_at hl 2 rfl) ?_
    obtain ⟨z5, e6, hf⟩ := mBind hf
    refine mcallV (rest := []) (ci := 9) B hw [.int (0 : Int32), .int a2] clX9_68 rfl h1 (r_X9_isFile l g K n hJ hO a0 (0 : Int32) a2 I0 J0 R0 z5 e6) ⟨rfl, rfl, Nat.le_of_ble_eq_true rfl, Nat.le_of_ble_eq_true rfl⟩ rfl hl.1 (Nat.le_of_ble_eq_true rfl) ⟨Nat.zero_le _, Nat.zero_le _⟩ dX9_isPair_12 (fun H locs hw => ?_)
    refine W.eq (g2 := F0 m 15 ls [.int (mb z5)]) rfl ?_
    refine lv_if_eq (tgt := 22) hx hb dX9_isPair_15 (by decide) (fun c7 => ?_) (fun c7 => ?_)
    · replace hf := mT1 c7 hf
      refine lv_iconst (v := (0 : Int32)) hx hb dX9_isPair_22 (by decide) ?_
      rw [hQm, ← Option.some.inj hf]
      exact mrz (v := false) hx hb hr hlk hw dX9_isPair_23
    · replace hf := mF1 c7 hf
      refine lv_iconst (v := (1 : Int32)) hx hb dX9_isPair_18 (by decide) ?_
      refine lv_goto (tgt := 23) hx hb dX9_isPair_19 (by decide) ?_
      rw [hQm, ← Option.some.inj hf]
      exact mrz (v := true) hx hb hr hlk hw dX9_isPair_23
def f_X9_shut (K : mK) (a0 : Nat) (a1 : Int32) (a2 : Int32) (I0 : mI) (J0 : mJ) (R0 : mR) : Option Int32 :=
  if K a0 = (0, 9) then
  (f_X9_isPair K a0 a1 a2 I0 J0 R0).bind fun z2 =>
  if (mb z2) = 0 then
  some (-1 : Int32)
  else
  (R0 a0 5).bind fun x5 =>
  if mIx K x5 1 a1 then
  (f_X9_shutOf K a0 (I0 x5 (a1).toNatClampNeg) a2 I0 J0 R0).bind fun z8 =>
  some z8
  else none
  else none
set_option maxHeartbeats 4000000 in
set_option maxRecDepth 100000 in
theorem r_X9_shut (l : Launch) (g : mG) (K : mK) (n : Nat) (hJ : mInj g n) (hO : mOk K n) (a0 : Nat) (a1 : Int32) (a2 : Int32) (I0 : mI) (J0 : mJ) (R0 : mR) (out : Int32) (hf : f_X9_shut K a0 a1 a2 I0 J0 R0 = some out) : Met l yX9_shut (mWs yX9_shut cX9_shut 3 (some .int)) ({ frames := 3, cells := 0, slots := 0, locals := 70 }) (va_Pc [.ref (g.2.1 a0), .int a1, .int a2] (mB g K n I0 J0 R0)) (mQ g K n (some (.int out)) I0 J0 R0) 0 0 (mA g n) := by
  unfold f_X9_shut at hf
  refine mStart RX9 hJ hO (by decide) rfl (Nat.le_of_ble_eq_true rfl) ?_
  intro p e s m below meth c ls Qm hQm B hr hlk hw hl
  have hx := B.1.1
  have hb := B.1.2.1
  have hl : lv_has ls 3 [(0, .ref (g.2.1 a0)), (1, .int a1), (2, .int a2)] := hl
  refine lv_aload_n hx hb dX9_shut_0 rfl (lv_at hl 0 rfl) ?_
  refine lv_iload_n hx hb dX9_shut_1 rfl (lv_at hl 1 rfl) ?_
  refine lv_iload_n hx hb dX9_shut_2 rfl (lv_at hl 2 rfl) ?_
  obtain ⟨h1, hf⟩ := mChk hf
  obtain ⟨z2, e3, hf⟩ := mBind hf
  refine mcallV (rest := []) (ci := 9) B hw [.int a1, .int a2] clX9_115 rfl h1 (r_X9_isPair l g K n hJ hO a0 a1 a2 I0 J0 R0 z2 e3) ⟨rfl, rfl, Nat.le_of_ble_eq_true rfl, Nat.le_of_ble_eq_true rfl⟩ rfl hl.1 (Nat.le_of_ble_eq_true rfl) ⟨Nat.zero_le _, Nat.zero_le _⟩ dX9_shut_3 (fun H locs hw => ?_)
  refine W.eq (g2 := F0 m 6 ls [.int (mb z2)]) rfl ?_
  refine lv_if_eq (tgt := 23) hx hb dX9_shut_6 (by decide) (fun c4 => ?_) (fun c4 => ?_)
  · replace hf := mT1 c4 hf
    refine lv_iconst (v := (-1 : Int32)) hx hb dX9_shut_23 (by decide) ?_
    rw [hQm, ← Option.some.inj hf]
    exact mri hx hb hr hlk hw dX9_shut_24
  · replace hf := mF1 c4 hf
    refine lv_aload_n hx hb dX9_shut_9 rfl (lv_at hl 0 rfl) ?_
    refine lv_aload_n hx hb dX9_shut_10 rfl (lv_at hl 0 rfl) ?_
    obtain ⟨x5, e6, hf⟩ := mBind hf
    refine mgr B hw flX9_25 rfl h1 e6 dX9_shut_11 ?_
    refine lv_iload_n hx hb dX9_shut_14 rfl (lv_at hl 1 rfl) ?_
    obtain ⟨h7, hf⟩ := mChk hf
    refine mld1 B hw h7 dX9_shut_15 ?_
    refine lv_iload_n hx hb dX9_shut_16 rfl (lv_at hl 2 rfl) ?_
    obtain ⟨z8, e9, hf⟩ := mBind hf
    refine mcallV (rest := []) (ci := 9) B hw [.int (I0 x5 (a1).toNatClampNeg), .int a2] clX9_118 rfl h1 (r_X9_shutOf l g K n hJ hO a0 (I0 x5 (a1).toNatClampNeg) a2 I0 J0 R0 z8 e9) ⟨rfl, rfl, Nat.le_of_ble_eq_true rfl, Nat.le_of_ble_eq_true rfl⟩ rfl hl.1 (Nat.le_of_ble_eq_true rfl) ⟨Nat.zero_le _, Nat.zero_le _⟩ dX9_shut_17 (fun H locs hw => ?_)
    refine W.eq (g2 := F0 m 20 ls [.int z8]) rfl ?_
    refine lv_goto (tgt := 24) hx hb dX9_shut_20 (by decide) ?_
    rw [hQm, ← Option.some.inj hf]
    exact mri hx hb hr hlk hw dX9_shut_24
def f_X9_pointsOf_L17 (K : mK) (v0 : Nat) (v1 : Int32) (v2 : Int32) (I0 : mI) (J0 : mJ) (R0 : mR) : Nat → Int32 → Int32 → Option Int32
  | 0, _, _ => none
  | N + 1, v3, v4 =>
  if (9 : Int32) ≤ v4 then
  some v3
  else
  if K v0 = (0, 9) then
  (f_X9_ofBody K v0 v1 v4 I0 J0 R0).bind fun z3 =>
  if z3 = 0 then
  f_X9_pointsOf_L17 K v0 v1 v2 I0 J0 R0 N v3 (v4 + (1 : Int32))
  else
  (f_X9_ofBody K v0 v1 v4 I0 J0 R0).bind fun z6 =>
  (f_X9_ofMissing K v0 v2 v4 I0 J0 R0).bind fun z8 =>
  if z6 = z8 then
  (R0 v0 14).bind fun x11 =>
  (f_X9_ofBody K v0 v1 v4 I0 J0 R0).bind fun z13 =>
  if mIx K x11 1 z13 then
  f_X9_pointsOf_L17 K v0 v1 v2 I0 J0 R0 N (v3 + (I0 x11 (z13).toNatClampNeg)) (v4 + (1 : Int32))
  else none
  else
  f_X9_pointsOf_L17 K v0 v1 v2 I0 J0 R0 N v3 (v4 + (1 : Int32))
  else none
def f_X9_pointsOf_L75 (K : mK) (v0 : Nat) (v1 : Int32) (v2 : Int32) (I0 : mI) (J0 : mJ) (R0 : mR) : Nat → Int32 → Int32 → Option Int32
  | 0, _, _ => none
  | N + 1, v3, v4 =>
  if (4 : Int32) ≤ v4 then
  some v3
  else
  if K v0 = (0, 9) then
  (f_X9_ofBody K v0 v1 ((9 : Int32) + v4) I0 J0 R0).bind fun z18 =>
  (f_X9_ofMissing K v0 v2 ((9 : Int32) + v4) I0 J0 R0).bind fun z20 =>
  if z18 = 0 then
  f_X9_pointsOf_L75 K v0 v1 v2 I0 J0 R0 N v3 (v4 + (1 : Int32))
  else
  if z20 = 0 then
  f_X9_pointsOf_L75 K v0 v1 v2 I0 J0 R0 N v3 (v4 + (1 : Int32))
  else
  if z18 = z20 then
  (R0 v0 14).bind fun x28 =>
  if mIx K x28 1 ((4 : Int32) + v4) then
  f_X9_pointsOf_L75 K v0 v1 v2 I0 J0 R0 N (v3 + (I0 x28 (((4 : Int32) + v4)).toNatClampNeg)) (v4 + (1 : Int32))
  else none
  else
  (R0 v0 14).bind fun x25 =>
  if mIx K x25 1 ((4 : Int32) + v4) then
  f_X9_pointsOf_L75 K v0 v1 v2 I0 J0 R0 N (v3 + (-(I0 x25 (((4 : Int32) + v4)).toNatClampNeg))) (v4 + (1 : Int32))
  else none
  else none
def f_X9_pointsOf_L156 (K : mK) (v0 : Nat) (v1 : Int32) (v2 : Int32) (I0 : mI) (J0 : mJ) (R0 : mR) : Nat → Int32 → Int32 → Option Int32
  | 0, _, _ => none
  | N + 1, v3, v4 =>
  if (3 : Int32) ≤ v4 then
  some v3
  else
  if K v0 = (0, 9) then
  (f_X9_ofBody K v0 v1 ((13 : Int32) + v4) I0 J0 R0).bind fun z33 =>
  if z33 = 0 then
  if z33 = 0 then
  f_X9_pointsOf_L156 K v0 v1 v2 I0 J0 R0 N v3 (v4 + (1 : Int32))
  else
  (f_X9_ofMissing K v0 v2 ((16 : Int32) + v4) I0 J0 R0).bind fun z37 =>
  if z37 = 0 then
  f_X9_pointsOf_L156 K v0 v1 v2 I0 J0 R0 N v3 (v4 + (1 : Int32))
  else
  (R0 v0 14).bind fun x40 =>
  if mIx K x40 1 (17 : Int32) then
  f_X9_pointsOf_L156 K v0 v1 v2 I0 J0 R0 N (v3 + (I0 x40 ((17 : Int32)).toNatClampNeg)) (v4 + (1 : Int32))
  else none
  else
  (f_X9_ofMissing K v0 v2 ((13 : Int32) + v4) I0 J0 R0).bind fun z43 =>
  if z43 = 0 then
  if z33 = 0 then
  f_X9_pointsOf_L156 K v0 v1 v2 I0 J0 R0 N v3 (v4 + (1 : Int32))
  else
  (f_X9_ofMissing K v0 v2 ((16 : Int32) + v4) I0 J0 R0).bind fun z47 =>
  if z47 = 0 then
  f_X9_pointsOf_L156 K v0 v1 v2 I0 J0 R0 N v3 (v4 + (1 : Int32))
  else
  (R0 v0 14).bind fun x50 =>
  if mIx K x50 1 (17 : Int32) then
  f_X9_pointsOf_L156 K v0 v1 v2 I0 J0 R0 N (v3 + (I0 x50 ((17 : Int32)).toNatClampNeg)) (v4 + (1 : Int32))
  else none
  else
  (R0 v0 14).bind fun x53 =>
  if mIx K x53 1 ((7 : Int32) + (z33 / (10 : Int32))) then
  if mIx K x53 1 ((7 : Int32) + (z33 - z33 / (10 : Int32) * (10 : Int32))) then
  (some (v3 + ((I0 x53 (((7 : Int32) + (z33 / (10 : Int32)))).toNatClampNeg) + (I0 x53 (((7 : Int32) + (z33 - z33 / (10 : Int32) * (10 : Int32)))).toNatClampNeg)))).bind fun y57 =>
  if z33 = 0 then
  f_X9_pointsOf_L156 K v0 v1 v2 I0 J0 R0 N y57 (v4 + (1 : Int32))
  else
  (f_X9_ofMissing K v0 v2 ((16 : Int32) + v4) I0 J0 R0).bind fun z60 =>
  if z60 = 0 then
  f_X9_pointsOf_L156 K v0 v1 v2 I0 J0 R0 N y57 (v4 + (1 : Int32))
  else
  if mIx K x53 1 (17 : Int32) then
  f_X9_pointsOf_L156 K v0 v1 v2 I0 J0 R0 N (y57 + (I0 x53 ((17 : Int32)).toNatClampNeg)) (v4 + (1 : Int32))
  else none
  else none
  else none
  else none
def f_X9_pointsOf (K : mK) (a0 : Nat) (a1 : Int32) (a2 : Int32) (I0 : mI) (J0 : mJ) (R0 : mR) : Option Int32 :=
  if K a0 = (0, 9) then
  (f_X9_shutOf K a0 a1 a2 I0 J0 R0).bind fun z65 =>
  if z65 = 0 then
  (f_X9_pointsOf_L17 K a0 a1 a2 I0 J0 R0 8192 (0 : Int32) (1 : Int32)).bind fun z68 =>
  (f_X9_pointsOf_L75 K a0 a1 a2 I0 J0 R0 8192 z68 (0 : Int32)).bind fun z70 =>
  (f_X9_pointsOf_L156 K a0 a1 a2 I0 J0 R0 8192 z70 (0 : Int32)).bind fun z72 =>
  some z72
  else
  some (-100000 : Int32)
  else none
set_option maxHeartbeats 4000000 in
set_option maxRecDepth 100000 in
theorem r_X9_pointsOf (l : Launch) (g : mG) (K : mK) (n : Nat) (hJ : mInj g n) (hO : mOk K n) (a0 : Nat) (a1 : Int32) (a2 : Int32) (I0 : mI) (J0 : mJ) (R0 : mR) (out : Int32) (hf : f_X9_pointsOf K a0 a1 a2 I0 J0 R0 = some out) : Met l yX9_pointsOf (mWs yX9_pointsOf cX9_pointsOf 7 (some .int)) ({ frames := 3, cells := 0, slots := 0, locals := 70 }) (va_Pc [.ref (g.2.1 a0), .int a1, .int a2] (mB g K n I0 J0 R0)) (mQ g K n (some (.int out)) I0 J0 R0) 0 0 (mA g n) := by
  unfold f_X9_pointsOf at hf
  refine mStart RX9 hJ hO (by decide) rfl (Nat.le_of_ble_eq_true rfl) ?_
  intro p e s m below meth c ls Qm hQm B hr hlk hw hl
  have hx := B.1.1
  have hb := B.1.2.1
  have hl : lv_has ls 7 [(0, .ref (g.2.1 a0)), (1, .int a1), (2, .int a2)] := hl
  have L17 : ∀ (N : Nat) (v0 : Nat) (v1 : Int32) (v2 : Int32) (v3 : Int32) (v4 : Int32) (z : Int32) (H : Heap) (locs : List Loc) (ls : Array Slot), f_X9_pointsOf_L17 K v0 v1 v2 I0 J0 R0 N v3 v4 = some z → mHp g K n s I0 J0 R0 H locs → lv_has ls 7 [(0, .ref (g.2.1 v0)), (1, .int v1), (2, .int v2), (3, .int v3), (4, .int v4)] → (∀ (H : Heap) (locs : List Loc) (ls : Array Slot), mHp g K n s I0 J0 R0 H locs → lv_has ls 7 [(0, .ref (g.2.1 v0)), (1, .int v1), (2, .int v2), (3, .int z)] → W p l e ({ frames := 3, cells := 0, slots := 0, locals := 70 } : Room) s m ([.ref (g.2.1 a0), .int a1, .int a2] : List Value).toArray below meth c H locs 0 0 Qm (F0 m 72 ls [])) → W p l e ({ frames := 3, cells := 0, slots := 0, locals := 70 } : Room) s m ([.ref (g.2.1 a0), .int a1, .int a2] : List Value).toArray below meth c H locs 0 0 Qm (F0 m 17 ls []) := by
    intro N
    induction N with
    | zero =>
      intro v0 v1 v2 v3 v4  z H locs ls hf hw hl kx
      rw [f_X9_pointsOf_L17] at hf
      cases hf
    | succ N ih =>
      intro v0 v1 v2 v3 v4  z H locs ls hf hw hl kx
      rw [f_X9_pointsOf_L17] at hf
      refine lv_iload hx hb dX9_pointsOf_17 (lv_at hl 4 rfl) ?_
      refine lv_bipush (v := (9 : Int32)) hx hb dX9_pointsOf_19 (by decide) ?_
      refine lv_icmp_ge (tgt := 72) hx hb dX9_pointsOf_21 (by decide) (fun c1 => ?_) (fun c1 => ?_)
      · replace hf := mT1 c1 hf
        obtain rfl := Option.some.inj hf
        exact kx _ _ _ hw (lv_sub hl [0, 1, 2, 3] rfl)
      · replace hf := mF1 c1 hf
        refine lv_aload_n hx hb dX9_pointsOf_24 rfl (lv_at hl 0 rfl) ?_
        refine lv_iload_n hx hb dX9_pointsOf_25 rfl (lv_at hl 1 rfl) ?_
        refine lv_iload hx hb dX9_pointsOf_26 (lv_at hl 4 rfl) ?_
        obtain ⟨h2, hf⟩ := mChk hf
        obtain ⟨z3, e4, hf⟩ := mBind hf
        refine mcallV (rest := []) (ci := 9) B hw [.int v1, .int v4] clX9_89 rfl h2 (r_X9_ofBody l g K n hJ hO v0 v1 v4 I0 J0 R0 z3 e4) ⟨rfl, rfl, Nat.le_of_ble_eq_true rfl, Nat.le_of_ble_eq_true rfl⟩ rfl hl.1 (Nat.le_of_ble_eq_true rfl) ⟨Nat.zero_le _, Nat.zero_le _⟩ dX9_pointsOf_28 (fun H locs hw => ?_)
        refine W.eq (g2 := F0 m 31 ls [.int z3]) rfl ?_
        refine lv_if_eq (tgt := 66) hx hb dX9_pointsOf_31 (by decide) (fun c5 => ?_) (fun c5 => ?_)
        · replace hf := mT1 c5 hf
          refine lv_iinc (v := (v4 + (1 : Int32))) (lv' := [(4, .int (v4 + (1 : Int32))), (0, .ref (g.2.1 v0)), (1, .int v1), (2, .int v2), (3, .int v3)]) hx hb dX9_pointsOf_66 hl (k := 4) rfl rfl (by decide) rfl (fun ls hl => ?_)
          refine lv_goto (tgt := 17) hx hb dX9_pointsOf_69 (by decide) ?_
          exact ih v0 v1 v2 v3 (v4 + (1 : Int32)) z _ _ _ hf hw (lv_sub hl [1, 2, 3, 4, 0] rfl) kx
        · replace hf := mF1 c5 hf
          refine lv_aload_n hx hb dX9_pointsOf_34 rfl (lv_at hl 0 rfl) ?_
          refine lv_iload_n hx hb dX9_pointsOf_35 rfl (lv_at hl 1 rfl) ?_
          refine lv_iload hx hb dX9_pointsOf_36 (lv_at hl 4 rfl) ?_
          obtain ⟨z6, e7, hf⟩ := mBind hf
          refine mcallV (rest := []) (ci := 9) B hw [.int v1, .int v4] clX9_89 rfl h2 (r_X9_ofBody l g K n hJ hO v0 v1 v4 I0 J0 R0 z6 e7) ⟨rfl, rfl, Nat.le_of_ble_eq_true rfl, Nat.le_of_ble_eq_true rfl⟩ rfl hl.1 (Nat.le_of_ble_eq_true rfl) ⟨Nat.zero_le _, Nat.zero_le _⟩ dX9_pointsOf_38 (fun H locs hw => ?_)
          refine W.eq (g2 := F0 m 41 ls [.int z6]) rfl ?_
          refine lv_aload_n hx hb dX9_pointsOf_41 rfl (lv_at hl 0 rfl) ?_
          refine lv_iload_n hx hb dX9_pointsOf_42 rfl (lv_at hl 2 rfl) ?_
          refine lv_iload hx hb dX9_pointsOf_43 (lv_at hl 4 rfl) ?_
          obtain ⟨z8, e9, hf⟩ := mBind hf
          refine mcallV (rest := [.int z6]) (ci := 9) B hw [.int v2, .int v4] clX9_109 rfl h2 (r_X9_ofMissing l g K n hJ hO v0 v2 v4 I0 J0 R0 z8 e9) ⟨rfl, rfl, Nat.le_of_ble_eq_true rfl, Nat.le_of_ble_eq_true rfl⟩ rfl hl.1 (Nat.le_of_ble_eq_true rfl) ⟨Nat.zero_le _, Nat.zero_le _⟩ dX9_pointsOf_45 (fun H locs hw => ?_)
          refine W.eq (g2 := F0 m 48 ls [.int z8, .int z6]) rfl ?_
          refine lv_icmp_ne (tgt := 66) hx hb dX9_pointsOf_48 (by decide) (fun c10 => ?_) (fun c10 => ?_)
          · replace hf := mF1 c10 hf
            refine lv_iinc (v := (v4 + (1 : Int32))) (lv' := [(4, .int (v4 + (1 : Int32))), (0, .ref (g.2.1 v0)), (1, .int v1), (2, .int v2), (3, .int v3)]) hx hb dX9_pointsOf_66 hl (k := 4) rfl rfl (by decide) rfl (fun ls hl => ?_)
            refine lv_goto (tgt := 17) hx hb dX9_pointsOf_69 (by decide) ?_
            exact ih v0 v1 v2 v3 (v4 + (1 : Int32)) z _ _ _ hf hw (lv_sub hl [1, 2, 3, 4, 0] rfl) kx
          · replace hf := mT1 c10 hf
            refine lv_iload_n hx hb dX9_pointsOf_51 rfl (lv_at hl 3 rfl) ?_
            refine lv_aload_n hx hb dX9_pointsOf_52 rfl (lv_at hl 0 rfl) ?_
            obtain ⟨x11, e12, hf⟩ := mBind hf
            refine mgr B hw flX9_50 rfl h2 e12 dX9_pointsOf_53 ?_
            refine lv_aload_n hx hb dX9_pointsOf_56 rfl (lv_at hl 0 rfl) ?_
            refine lv_iload_n hx hb dX9_pointsOf_57 rfl (lv_at hl 1 rfl) ?_
            refine lv_iload hx hb dX9_pointsOf_58 (lv_at hl 4 rfl) ?_
            obtain ⟨z13, e14, hf⟩ := mBind hf
            refine mcallV (rest := [.ref (g.2.1 x11), .int v3]) (ci := 9) B hw [.int v1, .int v4] clX9_89 rfl h2 (r_X9_ofBody l g K n hJ hO v0 v1 v4 I0 J0 R0 z13 e14) ⟨rfl, rfl, Nat.le_of_ble_eq_true rfl, Nat.le_of_ble_eq_true rfl⟩ rfl hl.1 (Nat.le_of_ble_eq_true rfl) ⟨Nat.zero_le _, Nat.zero_le _⟩ dX9_pointsOf_60 (fun H locs hw => ?_)
            refine W.eq (g2 := F0 m 63 ls [.int z13, .ref (g.2.1 x11), .int v3]) rfl ?_
            obtain ⟨h15, hf⟩ := mChk hf
            refine mld1 B hw h15 dX9_pointsOf_63 ?_
            refine lv_iadd hx hb dX9_pointsOf_64 ?_
            refine lv_istore_n (lv' := [(3, .int (v3 + (I0 x11 (z13).toNatClampNeg))), (0, .ref (g.2.1 v0)), (1, .int v1), (2, .int v2), (4, .int v4)]) hx hb dX9_pointsOf_65 rfl hl (by decide) rfl (fun ls hl => ?_)
            refine lv_iinc (v := (v4 + (1 : Int32))) (lv' := [(4, .int (v4 + (1 : Int32))), (3, .int (v3 + (I0 x11 (z13).toNatClampNeg))), (0, .ref (g.2.1 v0)), (1, .int v1), (2, .int v2)]) hx hb dX9_pointsOf_66 hl (k := 4) rfl rfl (by decide) rfl (fun ls hl => ?_)
            refine lv_goto (tgt := 17) hx hb dX9_pointsOf_69 (by decide) ?_
            exact ih v0 v1 v2 (v3 + (I0 x11 (z13).toNatClampNeg)) (v4 + (1 : Int32)) z _ _ _ hf hw (lv_sub hl [2, 3, 4, 1, 0] rfl) kx
  have L75 : ∀ (N : Nat) (v0 : Nat) (v1 : Int32) (v2 : Int32) (v3 : Int32) (v4 : Int32) (z : Int32) (H : Heap) (locs : List Loc) (ls : Array Slot), f_X9_pointsOf_L75 K v0 v1 v2 I0 J0 R0 N v3 v4 = some z → mHp g K n s I0 J0 R0 H locs → lv_has ls 7 [(0, .ref (g.2.1 v0)), (1, .int v1), (2, .int v2), (3, .int v3), (4, .int v4)] → (∀ (H : Heap) (locs : List Loc) (ls : Array Slot), mHp g K n s I0 J0 R0 H locs → lv_has ls 7 [(0, .ref (g.2.1 v0)), (1, .int v1), (2, .int v2), (3, .int z)] → W p l e ({ frames := 3, cells := 0, slots := 0, locals := 70 } : Room) s m ([.ref (g.2.1 a0), .int a1, .int a2] : List Value).toArray below meth c H locs 0 0 Qm (F0 m 153 ls [])) → W p l e ({ frames := 3, cells := 0, slots := 0, locals := 70 } : Room) s m ([.ref (g.2.1 a0), .int a1, .int a2] : List Value).toArray below meth c H locs 0 0 Qm (F0 m 75 ls []) := by
    intro N
    induction N with
    | zero =>
      intro v0 v1 v2 v3 v4  z H locs ls hf hw hl kx
      rw [f_X9_pointsOf_L75] at hf
      cases hf
    | succ N ih =>
      intro v0 v1 v2 v3 v4  z H locs ls hf hw hl kx
      rw [f_X9_pointsOf_L75] at hf
      refine lv_iload hx hb dX9_pointsOf_75 (lv_at hl 4 rfl) ?_
      refine lv_iconst (v := (4 : Int32)) hx hb dX9_pointsOf_77 (by decide) ?_
      refine lv_icmp_ge (tgt := 153) hx hb dX9_pointsOf_78 (by decide) (fun c16 => ?_) (fun c16 => ?_)
      · replace hf := mT1 c16 hf
        obtain rfl := Option.some.inj hf
        exact kx _ _ _ hw (lv_sub hl [0, 1, 2, 3] rfl)
      · replace hf := mF1 c16 hf
        refine lv_aload_n hx hb dX9_pointsOf_81 rfl (lv_at hl 0 rfl) ?_
        refine lv_iload_n hx hb dX9_pointsOf_82 rfl (lv_at hl 1 rfl) ?_
        refine lv_bipush (v := (9 : Int32)) hx hb dX9_pointsOf_83 (by decide) ?_
        refine lv_iload hx hb dX9_pointsOf_85 (lv_at hl 4 rfl) ?_
        refine lv_iadd hx hb dX9_pointsOf_87 ?_
        obtain ⟨h17, hf⟩ := mChk hf
        obtain ⟨z18, e19, hf⟩ := mBind hf
        refine mcallV (rest := []) (ci := 9) B hw [.int v1, .int ((9 : Int32) + v4)] clX9_89 rfl h17 (r_X9_ofBody l g K n hJ hO v0 v1 ((9 : Int32) + v4) I0 J0 R0 z18 e19) ⟨rfl, rfl, Nat.le_of_ble_eq_true rfl, Nat.le_of_ble_eq_true rfl⟩ rfl hl.1 (Nat.le_of_ble_eq_true rfl) ⟨Nat.zero_le _, Nat.zero_le _⟩ dX9_pointsOf_88 (fun H locs hw => ?_)
        refine W.eq (g2 := F0 m 91 ls [.int z18]) rfl ?_
        refine lv_istore (lv' := [(5, .int z18), (0, .ref (g.2.1 v0)), (1, .int v1), (2, .int v2), (3, .int v3), (4, .int v4)]) hx hb dX9_pointsOf_91 hl (by decide) rfl (fun ls hl => ?_)
        refine lv_aload_n hx hb dX9_pointsOf_93 rfl (lv_at hl 1 rfl) ?_
        refine lv_iload_n hx hb dX9_pointsOf_94 rfl (lv_at hl 3 rfl) ?_
        refine lv_bipush (v := (9 : Int32)) hx hb dX9_pointsOf_95 (by decide) ?_
        refine lv_iload hx hb dX9_pointsOf_97 (lv_at hl 5 rfl) ?_
        refine lv_iadd hx hb dX9_pointsOf_99 ?_
        obtain ⟨z20, e21, hf⟩ := mBind hf
        refine mcallV (rest := []) (ci := 9) B hw [.int v2, .int ((9 : Int32) + v4)] clX9_109 rfl h17 (r_X9_ofMissing l g K n hJ hO v0 v2 ((9 : Int32) + v4) I0 J0 R0 z20 e21) ⟨rfl, rfl, Nat.le_of_ble_eq_true rfl, Nat.le_of_ble_eq_true rfl⟩ rfl hl.1 (Nat.le_of_ble_eq_true rfl) ⟨Nat.zero_le _, Nat.zero_le _⟩ dX9_pointsOf_100 (fun H locs hw => ?_)
        refine W.eq (g2 := F0 m 103 ls [.int z20]) rfl ?_
        refine lv_istore (lv' := [(6, .int z20), (5, .int z18), (0, .ref (g.2.1 v0)), (1, .int v1), (2, .int v2), (3, .int v3), (4, .int v4)]) hx hb dX9_pointsOf_103 hl (by decide) rfl (fun ls hl => ?_)
        refine lv_iload hx hb dX9_pointsOf_105 (lv_at hl 1 rfl) ?_
        refine lv_if_eq (tgt := 147) hx hb dX9_pointsOf_107 (by decide) (fun c22 => ?_) (fun c22 => ?_)
        · replace hf := mT1 c22 hf
          refine lv_iinc (v := (v4 + (1 : Int32))) (lv' := [(4, .int (v4 + (1 : Int32))), (6, .int z20), (5, .int z18), (0, .ref (g.2.1 v0)), (1, .int v1), (2, .int v2), (3, .int v3)]) hx hb dX9_pointsOf_147 hl (k := 6) rfl rfl (by decide) rfl (fun ls hl => ?_)
          refine lv_goto (tgt := 75) hx hb dX9_pointsOf_150 (by decide) ?_
          exact ih v0 v1 v2 v3 (v4 + (1 : Int32)) z _ _ _ hf hw (lv_sub hl [3, 4, 5, 6, 0] rfl) kx
        · replace hf := mF1 c22 hf
          refine lv_iload hx hb dX9_pointsOf_110 (lv_at hl 0 rfl) ?_
          refine lv_if_eq (tgt := 147) hx hb dX9_pointsOf_112 (by decide) (fun c23 => ?_) (fun c23 => ?_)
          · replace hf := mT1 c23 hf
            refine lv_iinc (v := (v4 + (1 : Int32))) (lv' := [(4, .int (v4 + (1 : Int32))), (6, .int z20), (5, .int z18), (0, .ref (g.2.1 v0)), (1, .int v1), (2, .int v2), (3, .int v3)]) hx hb dX9_pointsOf_147 hl (k := 6) rfl rfl (by decide) rfl (fun ls hl => ?_)
            refine lv_goto (tgt := 75) hx hb dX9_pointsOf_150 (by decide) ?_
            exact ih v0 v1 v2 v3 (v4 + (1 : Int32)) z _ _ _ hf hw (lv_sub hl [3, 4, 5, 6, 0] rfl) kx
          · replace hf := mF1 c23 hf
            refine lv_iload_n hx hb dX9_pointsOf_115 rfl (lv_at hl 5 rfl) ?_
            refine lv_iload hx hb dX9_pointsOf_116 (lv_at hl 1 rfl) ?_
            refine lv_iload hx hb dX9_pointsOf_118 (lv_at hl 0 rfl) ?_
            refine lv_icmp_ne (tgt := 135) hx hb dX9_pointsOf_120 (by decide) (fun c24 => ?_) (fun c24 => ?_)
            · replace hf := mF1 c24 hf
              refine lv_aload_n hx hb dX9_pointsOf_135 rfl (lv_at hl 2 rfl) ?_
              obtain ⟨x25, e26, hf⟩ := mBind hf
              refine mgr B hw flX9_50 rfl h17 e26 dX9_pointsOf_136 ?_
              refine lv_iconst (v := (4 : Int32)) hx hb dX9_pointsOf_139 (by decide) ?_
              refine lv_iload hx hb dX9_pointsOf_140 (lv_at hl 6 rfl) ?_
              refine lv_iadd hx hb dX9_pointsOf_142 ?_
              obtain ⟨h27, hf⟩ := mChk hf
              refine mld1 B hw h27 dX9_pointsOf_143 ?_
              refine lv_ineg hx hb dX9_pointsOf_144 ?_
              refine lv_iadd hx hb dX9_pointsOf_145 ?_
              refine lv_istore_n (lv' := [(3, .int (v3 + (-(I0 x25 (((4 : Int32) + v4)).toNatClampNeg)))), (6, .int z20), (5, .int z18), (0, .ref (g.2.1 v0)), (1, .int v1), (2, .int v2), (4, .int v4)]) hx hb dX9_pointsOf_146 rfl hl (by decide) rfl (fun ls hl => ?_)
              refine lv_iinc (v := (v4 + (1 : Int32))) (lv' := [(4, .int (v4 + (1 : Int32))), (3, .int (v3 + (-(I0 x25 (((4 : Int32) + v4)).toNatClampNeg)))), (6, .int z20), (5, .int z18), (0, .ref (g.2.1 v0)), (1, .int v1), (2, .int v2)]) hx hb dX9_pointsOf_147 hl (k := 6) rfl rfl (by decide) rfl (fun ls hl => ?_)
              refine lv_goto (tgt := 75) hx hb dX9_pointsOf_150 (by decide) ?_
              exact ih v0 v1 v2 (v3 + (-(I0 x25 (((4 : Int32) + v4)).toNatClampNeg))) (v4 + (1 : Int32)) z _ _ _ hf hw (lv_sub hl [4, 5, 6, 1, 0] rfl) kx
            · replace hf := mT1 c24 hf
              refine lv_aload_n hx hb dX9_pointsOf_123 rfl (lv_at hl 2 rfl) ?_
              obtain ⟨x28, e29, hf⟩ := mBind hf
              refine mgr B hw flX9_50 rfl h17 e29 dX9_pointsOf_124 ?_
              refine lv_iconst (v := (4 : Int32)) hx hb dX9_pointsOf_127 (by decide) ?_
              refine lv_iload hx hb dX9_pointsOf_128 (lv_at hl 6 rfl) ?_
              refine lv_iadd hx hb dX9_pointsOf_130 ?_
              obtain ⟨h30, hf⟩ := mChk hf
              refine mld1 B hw h30 dX9_pointsOf_131 ?_
              refine lv_goto (tgt := 145) hx hb dX9_pointsOf_132 (by decide) ?_
              refine lv_iadd hx hb dX9_pointsOf_145 ?_
              refine lv_istore_n (lv' := [(3, .int (v3 + (I0 x28 (((4 : Int32) + v4)).toNatClampNeg))), (6, .int z20), (5, .int z18), (0, .ref (g.2.1 v0)), (1, .int v1), (2, .int v2), (4, .int v4)]) hx hb dX9_pointsOf_146 rfl hl (by decide) rfl (fun ls hl => ?_)
              refine lv_iinc (v := (v4 + (1 : Int32))) (lv' := [(4, .int (v4 + (1 : Int32))), (3, .int (v3 + (I0 x28 (((4 : Int32) + v4)).toNatClampNeg))), (6, .int z20), (5, .int z18), (0, .ref (g.2.1 v0)), (1, .int v1), (2, .int v2)]) hx hb dX9_pointsOf_147 hl (k := 6) rfl rfl (by decide) rfl (fun ls hl => ?_)
              refine lv_goto (tgt := 75) hx hb dX9_pointsOf_150 (by decide) ?_
              exact ih v0 v1 v2 (v3 + (I0 x28 (((4 : Int32) + v4)).toNatClampNeg)) (v4 + (1 : Int32)) z _ _ _ hf hw (lv_sub hl [4, 5, 6, 1, 0] rfl) kx
  have L156 : ∀ (N : Nat) (v0 : Nat) (v1 : Int32) (v2 : Int32) (v3 : Int32) (v4 : Int32) (z : Int32) (H : Heap) (locs : List Loc) (ls : Array Slot), f_X9_pointsOf_L156 K v0 v1 v2 I0 J0 R0 N v3 v4 = some z → mHp g K n s I0 J0 R0 H locs → lv_has ls 7 [(0, .ref (g.2.1 v0)), (1, .int v1), (2, .int v2), (3, .int v3), (4, .int v4)] → (∀ (H : Heap) (locs : List Loc) (ls : Array Slot), mHp g K n s I0 J0 R0 H locs → lv_has ls 7 [(3, .int z)] → W p l e ({ frames := 3, cells := 0, slots := 0, locals := 70 } : Room) s m ([.ref (g.2.1 a0), .int a1, .int a2] : List Value).toArray below meth c H locs 0 0 Qm (F0 m 256 ls [])) → W p l e ({ frames := 3, cells := 0, slots := 0, locals := 70 } : Room) s m ([.ref (g.2.1 a0), .int a1, .int a2] : List Value).toArray below meth c H locs 0 0 Qm (F0 m 156 ls []) := by
    intro N
    induction N with
    | zero =>
      intro v0 v1 v2 v3 v4  z H locs ls hf hw hl kx
      rw [f_X9_pointsOf_L156] at hf
      cases hf
    | succ N ih =>
      intro v0 v1 v2 v3 v4  z H locs ls hf hw hl kx
      rw [f_X9_pointsOf_L156] at hf
      refine lv_iload hx hb dX9_pointsOf_156 (lv_at hl 4 rfl) ?_
      refine lv_iconst (v := (3 : Int32)) hx hb dX9_pointsOf_158 (by decide) ?_
      refine lv_icmp_ge (tgt := 256) hx hb dX9_pointsOf_159 (by decide) (fun c31 => ?_) (fun c31 => ?_)
      · replace hf := mT1 c31 hf
        obtain rfl := Option.some.inj hf
        exact kx _ _ _ hw (lv_sub hl [3] rfl)
      · replace hf := mF1 c31 hf
        refine lv_aload_n hx hb dX9_pointsOf_162 rfl (lv_at hl 0 rfl) ?_
        refine lv_iload_n hx hb dX9_pointsOf_163 rfl (lv_at hl 1 rfl) ?_
        refine lv_bipush (v := (13 : Int32)) hx hb dX9_pointsOf_164 (by decide) ?_
        refine lv_iload hx hb dX9_pointsOf_166 (lv_at hl 4 rfl) ?_
        refine lv_iadd hx hb dX9_pointsOf_168 ?_
        obtain ⟨h32, hf⟩ := mChk hf
        obtain ⟨z33, e34, hf⟩ := mBind hf
        refine mcallV (rest := []) (ci := 9) B hw [.int v1, .int ((13 : Int32) + v4)] clX9_89 rfl h32 (r_X9_ofBody l g K n hJ hO v0 v1 ((13 : Int32) + v4) I0 J0 R0 z33 e34) ⟨rfl, rfl, Nat.le_of_ble_eq_true rfl, Nat.le_of_ble_eq_true rfl⟩ rfl hl.1 (Nat.le_of_ble_eq_true rfl) ⟨Nat.zero_le _, Nat.zero_le _⟩ dX9_pointsOf_169 (fun H locs hw => ?_)
        refine W.eq (g2 := F0 m 172 ls [.int z33]) rfl ?_
        refine lv_istore (lv' := [(5, .int z33), (0, .ref (g.2.1 v0)), (1, .int v1), (2, .int v2), (3, .int v3), (4, .int v4)]) hx hb dX9_pointsOf_172 hl (by decide) rfl (fun ls hl => ?_)
        refine lv_iload hx hb dX9_pointsOf_174 (lv_at hl 0 rfl) ?_
        refine lv_if_eq (tgt := 222) hx hb dX9_pointsOf_176 (by decide) (fun c35 => ?_) (fun c35 => ?_)
        · replace hf := mT1 c35 hf
          refine lv_iload hx hb dX9_pointsOf_222 (lv_at hl 0 rfl) ?_
          refine lv_if_eq (tgt := 250) hx hb dX9_pointsOf_224 (by decide) (fun c36 => ?_) (fun c36 => ?_)
          · replace hf := mT1 c36 hf
            refine lv_iinc (v := (v4 + (1 : Int32))) (lv' := [(4, .int (v4 + (1 : Int32))), (5, .int z33), (0, .ref (g.2.1 v0)), (1, .int v1), (2, .int v2), (3, .int v3)]) hx hb dX9_pointsOf_250 hl (k := 5) rfl rfl (by decide) rfl (fun ls hl => ?_)
            refine lv_goto (tgt := 156) hx hb dX9_pointsOf_253 (by decide) ?_
            exact ih v0 v1 v2 v3 (v4 + (1 : Int32)) z _ _ _ hf hw (lv_sub hl [2, 3, 4, 5, 0] rfl) kx
          · replace hf := mF1 c36 hf
            refine lv_aload_n hx hb dX9_pointsOf_227 rfl (lv_at hl 1 rfl) ?_
            refine lv_iload_n hx hb dX9_pointsOf_228 rfl (lv_at hl 3 rfl) ?_
            refine lv_bipush (v := (16 : Int32)) hx hb dX9_pointsOf_229 (by decide) ?_
            refine lv_iload hx hb dX9_pointsOf_231 (lv_at hl 5 rfl) ?_
            refine lv_iadd hx hb dX9_pointsOf_233 ?_
            obtain ⟨z37, e38, hf⟩ := mBind hf
            refine mcallV (rest := []) (ci := 9) B hw [.int v2, .int ((16 : Int32) + v4)] clX9_109 rfl h32 (r_X9_ofMissing l g K n hJ hO v0 v2 ((16 : Int32) + v4) I0 J0 R0 z37 e38) ⟨rfl, rfl, Nat.le_of_ble_eq_true rfl, Nat.le_of_ble_eq_true rfl⟩ rfl hl.1 (Nat.le_of_ble_eq_true rfl) ⟨Nat.zero_le _, Nat.zero_le _⟩ dX9_pointsOf_234 (fun H locs hw => ?_)
            refine W.eq (g2 := F0 m 237 ls [.int z37]) rfl ?_
            refine lv_if_eq (tgt := 250) hx hb dX9_pointsOf_237 (by decide) (fun c39 => ?_) (fun c39 => ?_)
            · replace hf := mT1 c39 hf
              refine lv_iinc (v := (v4 + (1 : Int32))) (lv' := [(4, .int (v4 + (1 : Int32))), (5, .int z33), (0, .ref (g.2.1 v0)), (1, .int v1), (2, .int v2), (3, .int v3)]) hx hb dX9_pointsOf_250 hl (k := 5) rfl rfl (by decide) rfl (fun ls hl => ?_)
              refine lv_goto (tgt := 156) hx hb dX9_pointsOf_253 (by decide) ?_
              exact ih v0 v1 v2 v3 (v4 + (1 : Int32)) z _ _ _ hf hw (lv_sub hl [2, 3, 4, 5, 0] rfl) kx
            · replace hf := mF1 c39 hf
              refine lv_iload_n hx hb dX9_pointsOf_240 rfl (lv_at hl 4 rfl) ?_
              refine lv_aload_n hx hb dX9_pointsOf_241 rfl (lv_at hl 1 rfl) ?_
              obtain ⟨x40, e41, hf⟩ := mBind hf
              refine mgr B hw flX9_50 rfl h32 e41 dX9_pointsOf_242 ?_
              refine lv_bipush (v := (17 : Int32)) hx hb dX9_pointsOf_245 (by decide) ?_
              obtain ⟨h42, hf⟩ := mChk hf
              refine mld1 B hw h42 dX9_pointsOf_247 ?_
              refine lv_iadd hx hb dX9_pointsOf_248 ?_
              refine lv_istore_n (lv' := [(3, .int (v3 + (I0 x40 ((17 : Int32)).toNatClampNeg))), (5, .int z33), (0, .ref (g.2.1 v0)), (1, .int v1), (2, .int v2), (4, .int v4)]) hx hb dX9_pointsOf_249 rfl hl (by decide) rfl (fun ls hl => ?_)
              refine lv_iinc (v := (v4 + (1 : Int32))) (lv' := [(4, .int (v4 + (1 : Int32))), (3, .int (v3 + (I0 x40 ((17 : Int32)).toNatClampNeg))), (5, .int z33), (0, .ref (g.2.1 v0)), (1, .int v1), (2, .int v2)]) hx hb dX9_pointsOf_250 hl (k := 5) rfl rfl (by decide) rfl (fun ls hl => ?_)
              refine lv_goto (tgt := 156) hx hb dX9_pointsOf_253 (by decide) ?_
              exact ih v0 v1 v2 (v3 + (I0 x40 ((17 : Int32)).toNatClampNeg)) (v4 + (1 : Int32)) z _ _ _ hf hw (lv_sub hl [3, 4, 5, 1, 0] rfl) kx
        · replace hf := mF1 c35 hf
          refine lv_aload_n hx hb dX9_pointsOf_179 rfl (lv_at hl 1 rfl) ?_
          refine lv_iload_n hx hb dX9_pointsOf_180 rfl (lv_at hl 3 rfl) ?_
          refine lv_bipush (v := (13 : Int32)) hx hb dX9_pointsOf_181 (by decide) ?_
          refine lv_iload hx hb dX9_pointsOf_183 (lv_at hl 5 rfl) ?_
          refine lv_iadd hx hb dX9_pointsOf_185 ?_
          obtain ⟨z43, e44, hf⟩ := mBind hf
          refine mcallV (rest := []) (ci := 9) B hw [.int v2, .int ((13 : Int32) + v4)] clX9_109 rfl h32 (r_X9_ofMissing l g K n hJ hO v0 v2 ((13 : Int32) + v4) I0 J0 R0 z43 e44) ⟨rfl, rfl, Nat.le_of_ble_eq_true rfl, Nat.le_of_ble_eq_true rfl⟩ rfl hl.1 (Nat.le_of_ble_eq_true rfl) ⟨Nat.zero_le _, Nat.zero_le _⟩ dX9_pointsOf_186 (fun H locs hw => ?_)
          refine W.eq (g2 := F0 m 189 ls [.int z43]) rfl ?_
          refine lv_if_eq (tgt := 222) hx hb dX9_pointsOf_189 (by decide) (fun c45 => ?_) (fun c45 => ?_)
          · replace hf := mT1 c45 hf
            refine lv_iload hx hb dX9_pointsOf_222 (lv_at hl 0 rfl) ?_
            refine lv_if_eq (tgt := 250) hx hb dX9_pointsOf_224 (by decide) (fun c46 => ?_) (fun c46 => ?_)
            · replace hf := mT1 c46 hf
              refine lv_iinc (v := (v4 + (1 : Int32))) (lv' := [(4, .int (v4 + (1 : Int32))), (5, .int z33), (0, .ref (g.2.1 v0)), (1, .int v1), (2, .int v2), (3, .int v3)]) hx hb dX9_pointsOf_250 hl (k := 5) rfl rfl (by decide) rfl (fun ls hl => ?_)
              refine lv_goto (tgt := 156) hx hb dX9_pointsOf_253 (by decide) ?_
              exact ih v0 v1 v2 v3 (v4 + (1 : Int32)) z _ _ _ hf hw (lv_sub hl [2, 3, 4, 5, 0] rfl) kx
            · replace hf := mF1 c46 hf
              refine lv_aload_n hx hb dX9_pointsOf_227 rfl (lv_at hl 1 rfl) ?_
              refine lv_iload_n hx hb dX9_pointsOf_228 rfl (lv_at hl 3 rfl) ?_
              refine lv_bipush (v := (16 : Int32)) hx hb dX9_pointsOf_229 (by decide) ?_
              refine lv_iload hx hb dX9_pointsOf_231 (lv_at hl 5 rfl) ?_
              refine lv_iadd hx hb dX9_pointsOf_233 ?_
              obtain ⟨z47, e48, hf⟩ := mBind hf
              refine mcallV (rest := []) (ci := 9) B hw [.int v2, .int ((16 : Int32) + v4)] clX9_109 rfl h32 (r_X9_ofMissing l g K n hJ hO v0 v2 ((16 : Int32) + v4) I0 J0 R0 z47 e48) ⟨rfl, rfl, Nat.le_of_ble_eq_true rfl, Nat.le_of_ble_eq_true rfl⟩ rfl hl.1 (Nat.le_of_ble_eq_true rfl) ⟨Nat.zero_le _, Nat.zero_le _⟩ dX9_pointsOf_234 (fun H locs hw => ?_)
              refine W.eq (g2 := F0 m 237 ls [.int z47]) rfl ?_
              refine lv_if_eq (tgt := 250) hx hb dX9_pointsOf_237 (by decide) (fun c49 => ?_) (fun c49 => ?_)
              · replace hf := mT1 c49 hf
                refine lv_iinc (v := (v4 + (1 : Int32))) (lv' := [(4, .int (v4 + (1 : Int32))), (5, .int z33), (0, .ref (g.2.1 v0)), (1, .int v1), (2, .int v2), (3, .int v3)]) hx hb dX9_pointsOf_250 hl (k := 5) rfl rfl (by decide) rfl (fun ls hl => ?_)
                refine lv_goto (tgt := 156) hx hb dX9_pointsOf_253 (by decide) ?_
                exact ih v0 v1 v2 v3 (v4 + (1 : Int32)) z _ _ _ hf hw (lv_sub hl [2, 3, 4, 5, 0] rfl) kx
              · replace hf := mF1 c49 hf
                refine lv_iload_n hx hb dX9_pointsOf_240 rfl (lv_at hl 4 rfl) ?_
                refine lv_aload_n hx hb dX9_pointsOf_241 rfl (lv_at hl 1 rfl) ?_
                obtain ⟨x50, e51, hf⟩ := mBind hf
                refine mgr B hw flX9_50 rfl h32 e51 dX9_pointsOf_242 ?_
                refine lv_bipush (v := (17 : Int32)) hx hb dX9_pointsOf_245 (by decide) ?_
                obtain ⟨h52, hf⟩ := mChk hf
                refine mld1 B hw h52 dX9_pointsOf_247 ?_
                refine lv_iadd hx hb dX9_pointsOf_248 ?_
                refine lv_istore_n (lv' := [(3, .int (v3 + (I0 x50 ((17 : Int32)).toNatClampNeg))), (5, .int z33), (0, .ref (g.2.1 v0)), (1, .int v1), (2, .int v2), (4, .int v4)]) hx hb dX9_pointsOf_249 rfl hl (by decide) rfl (fun ls hl => ?_)
                refine lv_iinc (v := (v4 + (1 : Int32))) (lv' := [(4, .int (v4 + (1 : Int32))), (3, .int (v3 + (I0 x50 ((17 : Int32)).toNatClampNeg))), (5, .int z33), (0, .ref (g.2.1 v0)), (1, .int v1), (2, .int v2)]) hx hb dX9_pointsOf_250 hl (k := 5) rfl rfl (by decide) rfl (fun ls hl => ?_)
                refine lv_goto (tgt := 156) hx hb dX9_pointsOf_253 (by decide) ?_
                exact ih v0 v1 v2 (v3 + (I0 x50 ((17 : Int32)).toNatClampNeg)) (v4 + (1 : Int32)) z _ _ _ hf hw (lv_sub hl [3, 4, 5, 1, 0] rfl) kx
          · replace hf := mF1 c45 hf
            refine lv_iload_n hx hb dX9_pointsOf_192 rfl (lv_at hl 4 rfl) ?_
            refine lv_aload_n hx hb dX9_pointsOf_193 rfl (lv_at hl 1 rfl) ?_
            obtain ⟨x53, e54, hf⟩ := mBind hf
            refine mgr B hw flX9_50 rfl h32 e54 dX9_pointsOf_194 ?_
            refine lv_bipush (v := (7 : Int32)) hx hb dX9_pointsOf_197 (by decide) ?_
            refine lv_iload hx hb dX9_pointsOf_199 (lv_at hl 0 rfl) ?_
            refine lv_bipush (v := (10 : Int32)) hx hb dX9_pointsOf_201 (by decide) ?_
            refine lv_idiv hx hb dX9_pointsOf_203 (by decide) ?_
            refine lv_iadd hx hb dX9_pointsOf_204 ?_
            obtain ⟨h55, hf⟩ := mChk hf
            refine mld1 B hw h55 dX9_pointsOf_205 ?_
            refine lv_aload_n hx hb dX9_pointsOf_206 rfl (lv_at hl 1 rfl) ?_
            refine mgr B hw flX9_50 rfl h32 e54 dX9_pointsOf_207 ?_
            refine lv_bipush (v := (7 : Int32)) hx hb dX9_pointsOf_210 (by decide) ?_
            refine lv_iload hx hb dX9_pointsOf_212 (lv_at hl 0 rfl) ?_
            refine lv_bipush (v := (10 : Int32)) hx hb dX9_pointsOf_214 (by decide) ?_
            refine lv_irem hx hb dX9_pointsOf_216 (by decide) ?_
            refine lv_iadd hx hb dX9_pointsOf_217 ?_
            obtain ⟨h56, hf⟩ := mChk hf
            refine mld1 B hw h56 dX9_pointsOf_218 ?_
            refine lv_iadd hx hb dX9_pointsOf_219 ?_
            refine lv_iadd hx hb dX9_pointsOf_220 ?_
            obtain ⟨y57, e58, hf⟩ := mLet hf
            rw [← e58]
            refine lv_istore_n (lv' := [(3, .int y57), (5, .int z33), (0, .ref (g.2.1 v0)), (1, .int v1), (2, .int v2), (4, .int v4)]) hx hb dX9_pointsOf_221 rfl hl (by decide) rfl (fun ls hl => ?_)
            refine lv_iload hx hb dX9_pointsOf_222 (lv_at hl 1 rfl) ?_
            refine lv_if_eq (tgt := 250) hx hb dX9_pointsOf_224 (by decide) (fun c59 => ?_) (fun c59 => ?_)
            · replace hf := mT1 c59 hf
              refine lv_iinc (v := (v4 + (1 : Int32))) (lv' := [(4, .int (v4 + (1 : Int32))), (3, .int y57), (5, .int z33), (0, .ref (g.2.1 v0)), (1, .int v1), (2, .int v2)]) hx hb dX9_pointsOf_250 hl (k := 5) rfl rfl (by decide) rfl (fun ls hl => ?_)
              refine lv_goto (tgt := 156) hx hb dX9_pointsOf_253 (by decide) ?_
              exact ih v0 v1 v2 y57 (v4 + (1 : Int32)) z _ _ _ hf hw (lv_sub hl [3, 4, 5, 1, 0] rfl) kx
            · replace hf := mF1 c59 hf
              refine lv_aload_n hx hb dX9_pointsOf_227 rfl (lv_at hl 2 rfl) ?_
              refine lv_iload_n hx hb dX9_pointsOf_228 rfl (lv_at hl 4 rfl) ?_
              refine lv_bipush (v := (16 : Int32)) hx hb dX9_pointsOf_229 (by decide) ?_
              refine lv_iload hx hb dX9_pointsOf_231 (lv_at hl 5 rfl) ?_
              refine lv_iadd hx hb dX9_pointsOf_233 ?_
              obtain ⟨z60, e61, hf⟩ := mBind hf
              refine mcallV (rest := []) (ci := 9) B hw [.int v2, .int ((16 : Int32) + v4)] clX9_109 rfl h32 (r_X9_ofMissing l g K n hJ hO v0 v2 ((16 : Int32) + v4) I0 J0 R0 z60 e61) ⟨rfl, rfl, Nat.le_of_ble_eq_true rfl, Nat.le_of_ble_eq_true rfl⟩ rfl hl.1 (Nat.le_of_ble_eq_true rfl) ⟨Nat.zero_le _, Nat.zero_le _⟩ dX9_pointsOf_234 (fun H locs hw => ?_)
              refine W.eq (g2 := F0 m 237 ls [.int z60]) rfl ?_
              refine lv_if_eq (tgt := 250) hx hb dX9_pointsOf_237 (by decide) (fun c62 => ?_) (fun c62 => ?_)
              · replace hf := mT1 c62 hf
                refine lv_iinc (v := (v4 + (1 : Int32))) (lv' := [(4, .int (v4 + (1 : Int32))), (3, .int y57), (5, .int z33), (0, .ref (g.2.1 v0)), (1, .int v1), (2, .int v2)]) hx hb dX9_pointsOf_250 hl (k := 5) rfl rfl (by decide) rfl (fun ls hl => ?_)
                refine lv_goto (tgt := 156) hx hb dX9_pointsOf_253 (by decide) ?_
                exact ih v0 v1 v2 y57 (v4 + (1 : Int32)) z _ _ _ hf hw (lv_sub hl [3, 4, 5, 1, 0] rfl) kx
              · replace hf := mF1 c62 hf
                refine lv_iload_n hx hb dX9_pointsOf_240 rfl (lv_at hl 0 rfl) ?_
                refine lv_aload_n hx hb dX9_pointsOf_241 rfl (lv_at hl 2 rfl) ?_
                refine mgr B hw flX9_50 rfl h32 e54 dX9_pointsOf_242 ?_
                refine lv_bipush (v := (17 : Int32)) hx hb dX9_pointsOf_245 (by decide) ?_
                obtain ⟨h63, hf⟩ := mChk hf
                refine mld1 B hw h63 dX9_pointsOf_247 ?_
                refine lv_iadd hx hb dX9_pointsOf_248 ?_
                refine lv_istore_n (lv' := [(3, .int (y57 + (I0 x53 ((17 : Int32)).toNatClampNeg))), (5, .int z33), (0, .ref (g.2.1 v0)), (1, .int v1), (2, .int v2), (4, .int v4)]) hx hb dX9_pointsOf_249 rfl hl (by decide) rfl (fun ls hl => ?_)
                refine lv_iinc (v := (v4 + (1 : Int32))) (lv' := [(4, .int (v4 + (1 : Int32))), (3, .int (y57 + (I0 x53 ((17 : Int32)).toNatClampNeg))), (5, .int z33), (0, .ref (g.2.1 v0)), (1, .int v1), (2, .int v2)]) hx hb dX9_pointsOf_250 hl (k := 5) rfl rfl (by decide) rfl (fun ls hl => ?_)
                refine lv_goto (tgt := 156) hx hb dX9_pointsOf_253 (by decide) ?_
                exact ih v0 v1 v2 (y57 + (I0 x53 ((17 : Int32)).toNatClampNeg)) (v4 + (1 : Int32)) z _ _ _ hf hw (lv_sub hl [3, 4, 5, 1, 0] rfl) kx
  refine lv_aload_n hx hb dX9_pointsOf_0 rfl (lv_at hl 0 rfl) ?_
  refine lv_iload_n hx hb dX9_pointsOf_1 rfl (lv_at hl 1 rfl) ?_
  refine lv_iload_n hx hb dX9_pointsOf_2 rfl (lv_at hl 2 rfl) ?_
  obtain ⟨h64, hf⟩ := mChk hf
  obtain ⟨z65, e66, hf⟩ := mBind hf
  refine mcallV (rest := []) (ci := 9) B hw [.int a1, .int a2] clX9_118 rfl h64 (r_X9_shutOf l g K n hJ hO a0 a1 a2 I0 J0 R0 z65 e66) ⟨rfl, rfl, Nat.le_of_ble_eq_true rfl, Nat.le_of_ble_eq_true rfl⟩ rfl hl.1 (Nat.le_of_ble_eq_true rfl) ⟨Nat.zero_le _, Nat.zero_le _⟩ dX9_pointsOf_3 (fun H locs hw => ?_)
  refine W.eq (g2 := F0 m 6 ls [.int z65]) rfl ?_
  refine lv_if_eq (tgt := 12) hx hb dX9_pointsOf_6 (by decide) (fun c67 => ?_) (fun c67 => ?_)
  · replace hf := mT1 c67 hf
    refine lv_iconst (v := (0 : Int32)) hx hb dX9_pointsOf_12 (by decide) ?_
    refine lv_istore_n (lv' := [(3, .int (0 : Int32)), (0, .ref (g.2.1 a0)), (1, .int a1), (2, .int a2)]) hx hb dX9_pointsOf_13 rfl hl (by decide) rfl (fun ls hl => ?_)
    refine lv_iconst (v := (1 : Int32)) hx hb dX9_pointsOf_14 (by decide) ?_
    refine lv_istore (lv' := [(4, .int (1 : Int32)), (3, .int (0 : Int32)), (0, .ref (g.2.1 a0)), (1, .int a1), (2, .int a2)]) hx hb dX9_pointsOf_15 hl (by decide) rfl (fun ls hl => ?_)
    obtain ⟨z68, e69, hf⟩ := mBind hf
    refine L17 8192 a0 a1 a2 (0 : Int32) (1 : Int32) z68 _ _ _ e69 hw (lv_sub hl [2, 3, 4, 1, 0] rfl) (fun H locs ls hw hl => ?_)
    refine lv_iconst (v := (0 : Int32)) hx hb dX9_pointsOf_72 (by decide) ?_
    refine lv_istore (lv' := [(4, .int (0 : Int32)), (0, .ref (g.2.1 a0)), (1, .int a1), (2, .int a2), (3, .int z68)]) hx hb dX9_pointsOf_73 hl (by decide) rfl (fun ls hl => ?_)
    obtain ⟨z70, e71, hf⟩ := mBind hf
    refine L75 8192 a0 a1 a2 z68 (0 : Int32) z70 _ _ _ e71 hw (lv_sub hl [1, 2, 3, 4, 0] rfl) (fun H locs ls hw hl => ?_)
    refine lv_iconst (v := (0 : Int32)) hx hb dX9_pointsOf_153 (by decide) ?_
    refine lv_istore (lv' := [(4, .int (0 : Int32)), (0, .ref (g.2.1 a0)), (1, .int a1), (2, .int a2), (3, .int z70)]) hx hb dX9_pointsOf_154 hl (by decide) rfl (fun ls hl => ?_)
    obtain ⟨z72, e73, hf⟩ := mBind hf
    refine L156 8192 a0 a1 a2 z70 (0 : Int32) z72 _ _ _ e73 hw (lv_sub hl [1, 2, 3, 4, 0] rfl) (fun H locs ls hw hl => ?_)
    refine lv_iload_n hx hb dX9_pointsOf_256 rfl (lv_at hl 0 rfl) ?_
    rw [hQm, ← Option.some.inj hf]
    exact mri hx hb hr hlk hw dX9_pointsOf_257
  · replace hf := mF1 c67 hf
    refine lv_ldc (v := (-100000 : Int32)) hx hb B.1.2.2.2.1 (B.1.2.2.2.2 (Cond.constant RX9 121 (-100000 : Int32)) (mT_at 852 rfl rfl)) dX9_pointsOf_9 ?_
    rw [hQm, ← Option.some.inj hf]
    exact mri hx hb hr hlk hw dX9_pointsOf_11
def f_X9_points (K : mK) (a0 : Nat) (a1 : Int32) (a2 : Int32) (I0 : mI) (J0 : mJ) (R0 : mR) : Option Int32 :=
  if K a0 = (0, 9) then
  (f_X9_isPair K a0 a1 a2 I0 J0 R0).bind fun z2 =>
  if (mb z2) = 0 then
  some (-1 : Int32)
  else
  (R0 a0 5).bind fun x5 =>
  if mIx K x5 1 a1 then
  (f_X9_pointsOf K a0 (I0 x5 (a1).toNatClampNeg) a2 I0 J0 R0).bind fun z8 =>
  some z8
  else none
  else none
set_option maxHeartbeats 4000000 in
set_option maxRecDepth 100000 in
theorem r_X9_points (l : Launch) (g : mG) (K : mK) (n : Nat) (hJ : mInj g n) (hO : mOk K n) (a0 : Nat) (a1 : Int32) (a2 : Int32) (I0 : mI) (J0 : mJ) (R0 : mR) (out : Int32) (hf : f_X9_points K a0 a1 a2 I0 J0 R0 = some out) : Met l yX9_points (mWs yX9_points cX9_points 3 (some .int)) ({ frames := 4, cells := 0, slots := 0, locals := 96 }) (va_Pc [.ref (g.2.1 a0), .int a1, .int a2] (mB g K n I0 J0 R0)) (mQ g K n (some (.int out)) I0 J0 R0) 0 0 (mA g n) := by
  unfold f_X9_points at hf
  refine mStart RX9 hJ hO (by decide) rfl (Nat.le_of_ble_eq_true rfl) ?_
  intro p e s m below meth c ls Qm hQm B hr hlk hw hl
  have hx := B.1.1
  have hb := B.1.2.1
  have hl : lv_has ls 3 [(0, .ref (g.2.1 a0)), (1, .int a1), (2, .int a2)] := hl
  refine lv_aload_n hx hb dX9_points_0 rfl (lv_at hl 0 rfl) ?_
  refine lv_iload_n hx hb dX9_points_1 rfl (lv_at hl 1 rfl) ?_
  refine lv_iload_n hx hb dX9_points_2 rfl (lv_at hl 2 rfl) ?_
  obtain ⟨h1, hf⟩ := mChk hf
  obtain ⟨z2, e3, hf⟩ := mBind hf
  refine mcallV (rest := []) (ci := 9) B hw [.int a1, .int a2] clX9_115 rfl h1 (r_X9_isPair l g K n hJ hO a0 a1 a2 I0 J0 R0 z2 e3) ⟨rfl, rfl, Nat.le_of_ble_eq_true rfl, Nat.le_of_ble_eq_true rfl⟩ rfl hl.1 (Nat.le_of_ble_eq_true rfl) ⟨Nat.zero_le _, Nat.zero_le _⟩ dX9_points_3 (fun H locs hw => ?_)
  refine W.eq (g2 := F0 m 6 ls [.int (mb z2)]) rfl ?_
  refine lv_if_eq (tgt := 23) hx hb dX9_points_6 (by decide) (fun c4 => ?_) (fun c4 => ?_)
  · replace hf := mT1 c4 hf
    refine lv_iconst (v := (-1 : Int32)) hx hb dX9_points_23 (by decide) ?_
    rw [hQm, ← Option.some.inj hf]
    exact mri hx hb hr hlk hw dX9_points_24
  · replace hf := mF1 c4 hf
    refine lv_aload_n hx hb dX9_points_9 rfl (lv_at hl 0 rfl) ?_
    refine lv_aload_n hx hb dX9_points_10 rfl (lv_at hl 0 rfl) ?_
    obtain ⟨x5, e6, hf⟩ := mBind hf
    refine mgr B hw flX9_25 rfl h1 e6 dX9_points_11 ?_
    refine lv_iload_n hx hb dX9_points_14 rfl (lv_at hl 1 rfl) ?_
    obtain ⟨h7, hf⟩ := mChk hf
    refine mld1 B hw h7 dX9_points_15 ?_
    refine lv_iload_n hx hb dX9_points_16 rfl (lv_at hl 2 rfl) ?_
    obtain ⟨z8, e9, hf⟩ := mBind hf
    refine mcallV (rest := []) (ci := 9) B hw [.int (I0 x5 (a1).toNatClampNeg), .int a2] clX9_122 rfl h1 (r_X9_pointsOf l g K n hJ hO a0 (I0 x5 (a1).toNatClampNeg) a2 I0 J0 R0 z8 e9) ⟨rfl, rfl, Nat.le_of_ble_eq_true rfl, Nat.le_of_ble_eq_true rfl⟩ rfl hl.1 (Nat.le_of_ble_eq_true rfl) ⟨Nat.zero_le _, Nat.zero_le _⟩ dX9_points_17 (fun H locs hw => ?_)
    refine W.eq (g2 := F0 m 20 ls [.int z8]) rfl ?_
    refine lv_goto (tgt := 24) hx hb dX9_points_20 (by decide) ?_
    rw [hQm, ← Option.some.inj hf]
    exact mri hx hb hr hlk hw dX9_points_24
def f_X9_isNamed_L4 (K : mK) (v0 : Nat) (v1 : Int32) (I0 : mI) (J0 : mJ) (R0 : mR) : Nat → Bool → Int32 → Option Bool
  | 0, _, _ => none
  | N + 1, v2, v3 =>
  if K v0 = (0, 9) then
  (R0 v0 0).bind fun x2 =>
  if mIx K x2 1 (1 : Int32) then
  if (I0 x2 ((1 : Int32)).toNatClampNeg) ≤ v3 then
  some v2
  else
  if (mb v2) = 0 then
  (R0 v0 6).bind fun x7 =>
  if mIx K x7 1 v3 then
  if (I0 x7 (v3).toNatClampNeg) = v1 then
  f_X9_isNamed_L4 K v0 v1 I0 J0 R0 N true (v3 + (1 : Int32))
  else
  f_X9_isNamed_L4 K v0 v1 I0 J0 R0 N false (v3 + (1 : Int32))
  else none
  else
  f_X9_isNamed_L4 K v0 v1 I0 J0 R0 N true (v3 + (1 : Int32))
  else none
  else none
def f_X9_isNamed (K : mK) (a0 : Nat) (a1 : Int32) (I0 : mI) (J0 : mJ) (R0 : mR) : Option Bool :=
  (f_X9_isNamed_L4 K a0 a1 I0 J0 R0 8192 false (0 : Int32)).bind fun z11 =>
  some z11
set_option maxHeartbeats 4000000 in
set_option maxRecDepth 100000 in
theorem r_X9_isNamed (l : Launch) (g : mG) (K : mK) (n : Nat) (hJ : mInj g n) (hO : mOk K n) (a0 : Nat) (a1 : Int32) (I0 : mI) (J0 : mJ) (R0 : mR) (out : Bool) (hf : f_X9_isNamed K a0 a1 I0 J0 R0 = some out) : Met l yX9_isNamed (mWs yX9_isNamed cX9_isNamed 4 (some .boolean)) ({ frames := 0, cells := 0, slots := 0, locals := 0 }) (va_Pc [.ref (g.2.1 a0), .int a1] (mB g K n I0 J0 R0)) (mQ g K n (some (.int (mb out))) I0 J0 R0) 0 0 (mA g n) := by
  unfold f_X9_isNamed at hf
  refine mStart RX9 hJ hO (by decide) rfl (Nat.le_of_ble_eq_true rfl) ?_
  intro p e s m below meth c ls Qm hQm B hr hlk hw hl
  have hx := B.1.1
  have hb := B.1.2.1
  have hl : lv_has ls 4 [(0, .ref (g.2.1 a0)), (1, .int a1)] := hl
  have L4 : ∀ (N : Nat) (v0 : Nat) (v1 : Int32) (v2 : Bool) (v3 : Int32) (z : Bool) (H : Heap) (locs : List Loc) (ls : Array Slot), f_X9_isNamed_L4 K v0 v1 I0 J0 R0 N v2 v3 = some z → mHp g K n s I0 J0 R0 H locs → lv_has ls 4 [(0, .ref (g.2.1 v0)), (1, .int v1), (2, .int (mb v2)), (3, .int v3)] → (∀ (H : Heap) (locs : List Loc) (ls : Array Slot), mHp g K n s I0 J0 R0 H locs → lv_has ls 4 [(2, .int (mb z))] → W p l e ({ frames := 0, cells := 0, slots := 0, locals := 0 } : Room) s m ([.ref (g.2.1 a0), .int a1] : List Value).toArray below meth c H locs 0 0 Qm (F0 m 40 ls [])) → W p l e ({ frames := 0, cells := 0, slots := 0, locals := 0 } : Room) s m ([.ref (g.2.1 a0), .int a1] : List Value).toArray below meth c H locs 0 0 Qm (F0 m 4 ls []) := by
    intro N
    induction N with
    | zero =>
      intro v0 v1 v2 v3  z H locs ls hf hw hl kx
      rw [f_X9_isNamed_L4] at hf
      cases hf
    | succ N ih =>
      intro v0 v1 v2 v3  z H locs ls hf hw hl kx
      rw [f_X9_isNamed_L4] at hf
      refine lv_iload_n hx hb dX9_isNamed_4 rfl (lv_at hl 3 rfl) ?_
      refine lv_aload_n hx hb dX9_isNamed_5 rfl (lv_at hl 0 rfl) ?_
      obtain ⟨h1, hf⟩ := mChk hf
      obtain ⟨x2, e3, hf⟩ := mBind hf
      refine mgr B hw flX9_7 rfl h1 e3 dX9_isNamed_6 ?_
      refine lv_iconst (v := (1 : Int32)) hx hb dX9_isNamed_9 (by decide) ?_
      obtain ⟨h4, hf⟩ := mChk hf
      refine mld1 B hw h4 dX9_isNamed_10 ?_
      refine lv_icmp_ge (tgt := 40) hx hb dX9_isNamed_11 (by decide) (fun c5 => ?_) (fun c5 => ?_)
      · replace hf := mT1 c5 hf
        obtain rfl := Option.some.inj hf
        exact kx _ _ _ hw (lv_sub hl [2] rfl)
      · replace hf := mF1 c5 hf
        refine lv_iload_n hx hb dX9_isNamed_14 rfl (lv_at hl 2 rfl) ?_
        refine lv_if_ne (tgt := 28) hx hb dX9_isNamed_15 (by decide) (fun c6 => ?_) (fun c6 => ?_)
        · replace hf := mF1 c6 hf
          refine lv_iconst (v := (1 : Int32)) hx hb dX9_isNamed_28 (by decide) ?_
          refine lv_goto (tgt := 33) hx hb dX9_isNamed_29 (by decide) ?_
          refine lv_istore_n (lv' := [(2, .int (1 : Int32)), (0, .ref (g.2.1 v0)), (1, .int v1), (3, .int v3)]) hx hb dX9_isNamed_33 rfl hl (by decide) rfl (fun ls hl => ?_)
          refine lv_iinc (v := (v3 + (1 : Int32))) (lv' := [(3, .int (v3 + (1 : Int32))), (2, .int (1 : Int32)), (0, .ref (g.2.1 v0)), (1, .int v1)]) hx hb dX9_isNamed_34 hl (k := 3) rfl rfl (by decide) rfl (fun ls hl => ?_)
          refine lv_goto (tgt := 4) hx hb dX9_isNamed_37 (by decide) ?_
          exact ih v0 v1 true (v3 + (1 : Int32)) z _ _ _ hf hw (lv_sub hl [2, 3, 1, 0] rfl) kx
        · replace hf := mT1 c6 hf
          refine lv_aload_n hx hb dX9_isNamed_18 rfl (lv_at hl 0 rfl) ?_
          obtain ⟨x7, e8, hf⟩ := mBind hf
          refine mgr B hw flX9_28 rfl h1 e8 dX9_isNamed_19 ?_
          refine lv_iload_n hx hb dX9_isNamed_22 rfl (lv_at hl 3 rfl) ?_
          obtain ⟨h9, hf⟩ := mChk hf
          refine mld1 B hw h9 dX9_isNamed_23 ?_
          refine lv_iload_n hx hb dX9_isNamed_24 rfl (lv_at hl 1 rfl) ?_
          refine lv_icmp_ne (tgt := 32) hx hb dX9_isNamed_25 (by decide) (fun c10 => ?_) (fun c10 => ?_)
          · replace hf := mF1 c10 hf
            refine lv_iconst (v := (0 : Int32)) hx hb dX9_isNamed_32 (by decide) ?_
            refine lv_istore_n (lv' := [(2, .int (0 : Int32)), (0, .ref (g.2.1 v0)), (1, .int v1), (3, .int v3)]) hx hb dX9_isNamed_33 rfl hl (by decide) rfl (fun ls hl => ?_)
            refine lv_iinc (v := (v3 + (1 : Int32))) (lv' := [(3, .int (v3 + (1 : Int32))), (2, .int (0 : Int32)), (0, .ref (g.2.1 v0)), (1, .int v1)]) hx hb dX9_isNamed_34 hl (k := 3) rfl rfl (by decide) rfl (fun ls hl => ?_)
            refine lv_goto (tgt := 4) hx hb dX9_isNamed_37 (by decide) ?_
            exact ih v0 v1 false (v3 + (1 : Int32)) z _ _ _ hf hw (lv_sub hl [2, 3, 1, 0] rfl) kx
          · replace hf := mT1 c10 hf
            refine lv_iconst (v := (1 : Int32)) hx hb dX9_isNamed_28 (by decide) ?_
            refine lv_goto (tgt := 33) hx hb dX9_isNamed_29 (by decide) ?_
            refine lv_istore_n (lv' := [(2, .int (1 : Int32)), (0, .ref (g.2.1 v0)), (1, .int v1), (3, .int v3)]) hx hb dX9_isNamed_33 rfl hl (by decide) rfl (fun ls hl => ?_)
            refine lv_iinc (v := (v3 + (1 : Int32))) (lv' := [(3, .int (v3 + (1 : Int32))), (2, .int (1 : Int32)), (0, .ref (g.2.1 v0)), (1, .int v1)]) hx hb dX9_isNamed_34 hl (k := 3) rfl rfl (by decide) rfl (fun ls hl => ?_)
            refine lv_goto (tgt := 4) hx hb dX9_isNamed_37 (by decide) ?_
            exact ih v0 v1 true (v3 + (1 : Int32)) z _ _ _ hf hw (lv_sub hl [2, 3, 1, 0] rfl) kx
  refine lv_iconst (v := (0 : Int32)) hx hb dX9_isNamed_0 (by decide) ?_
  refine lv_istore_n (lv' := [(2, .int (0 : Int32)), (0, .ref (g.2.1 a0)), (1, .int a1)]) hx hb dX9_isNamed_1 rfl hl (by decide) rfl (fun ls hl => ?_)
  refine lv_iconst (v := (0 : Int32)) hx hb dX9_isNamed_2 (by decide) ?_
  refine lv_istore_n (lv' := [(3, .int (0 : Int32)), (2, .int (0 : Int32)), (0, .ref (g.2.1 a0)), (1, .int a1)]) hx hb dX9_isNamed_3 rfl hl (by decide) rfl (fun ls hl => ?_)
  obtain ⟨z11, e12, hf⟩ := mBind hf
  refine L4 8192 a0 a1 false (0 : Int32) z11 _ _ _ e12 hw (lv_sub hl [2, 3, 1, 0] rfl) (fun H locs ls hw hl => ?_)
  refine lv_iload_n hx hb dX9_isNamed_40 rfl (lv_at hl 0 rfl) ?_
  rw [hQm, ← Option.some.inj hf]
  exact mrz (v := z11) hx hb hr hlk hw dX9_isNamed_41
def f_X9_measures_L14 (K : mK) (v0 : Nat) (v1 : Int32) (J0 : mJ) (R0 : mR) : Nat → Int32 → mI → Option mI
  | 0, _, _ => none
  | N + 1, v2, I =>
  if K v0 = (0, 9) then
  (R0 v0 0).bind fun x2 =>
  if mIx K x2 1 (0 : Int32) then
  if (I x2 ((0 : Int32)).toNatClampNeg) ≤ v2 then
  some I
  else
  (R0 v0 5).bind fun x6 =>
  if mIx K x6 1 v1 then
  if (I x6 (v1).toNatClampNeg) = v1 then
  (R0 v0 6).bind fun x16 =>
  if mIx K x16 1 v1 then
  if (I x16 (v1).toNatClampNeg) = (-1 : Int32) then
  (f_X9_isNamed K v0 v2 I J0 R0).bind fun z26 =>
  if (mb z26) = 0 then
  (R0 v0 7).bind fun x35 =>
  (f_X9_pointsOf K v0 v1 v2 I J0 R0).bind fun z38 =>
  if mIx K x35 1 (((12 : Int32) * v1) + v2) then
  (some (mup I x35 ((((12 : Int32) * v1) + v2)).toNatClampNeg (imax (0 : Int32) z38))).bind fun I41 =>
  f_X9_measures_L14 K v0 v1 J0 R0 N (v2 + (1 : Int32)) I41
  else none
  else
  (R0 v0 7).bind fun x29 =>
  if mIx K x29 1 (((12 : Int32) * v1) + v2) then
  (some (mup I x29 ((((12 : Int32) * v1) + v2)).toNatClampNeg (0 : Int32))).bind fun I33 =>
  f_X9_measures_L14 K v0 v1 J0 R0 N (v2 + (1 : Int32)) I33
  else none
  else
  (R0 v0 7).bind fun x20 =>
  if mIx K x20 1 (((12 : Int32) * v1) + v2) then
  (some (mup I x20 ((((12 : Int32) * v1) + v2)).toNatClampNeg (0 : Int32))).bind fun I24 =>
  f_X9_measures_L14 K v0 v1 J0 R0 N (v2 + (1 : Int32)) I24
  else none
  else none
  else
  (R0 v0 7).bind fun x10 =>
  if mIx K x10 1 (((12 : Int32) * v1) + v2) then
  (some (mup I x10 ((((12 : Int32) * v1) + v2)).toNatClampNeg (0 : Int32))).bind fun I14 =>
  f_X9_measures_L14 K v0 v1 J0 R0 N (v2 + (1 : Int32)) I14
  else none
  else none
  else none
  else none
def f_X9_measures_L2 (K : mK) (v0 : Nat) (J0 : mJ) (R0 : mR) : Nat → Int32 → mI → Option mI
  | 0, _, _ => none
  | N + 1, v1, I =>
  if K v0 = (0, 9) then
  (R0 v0 0).bind fun x44 =>
  if mIx K x44 1 (1 : Int32) then
  if (I x44 ((1 : Int32)).toNatClampNeg) ≤ v1 then
  some I
  else
  (f_X9_measures_L14 K v0 v1 J0 R0 8192 (0 : Int32) I).bind fun z48 =>
  f_X9_measures_L2 K v0 J0 R0 N (v1 + (1 : Int32)) z48
  else none
  else none
def f_X9_measures (K : mK) (a0 : Nat) (I0 : mI) (J0 : mJ) (R0 : mR) : Option mI :=
  (f_X9_measures_L2 K a0 J0 R0 8192 (0 : Int32) I0).bind fun z50 =>
  some z50
set_option maxHeartbeats 4000000 in
set_option maxRecDepth 100000 in
theorem r_X9_measures (l : Launch) (g : mG) (K : mK) (n : Nat) (hJ : mInj g n) (hO : mOk K n) (a0 : Nat) (I0 : mI) (J0 : mJ) (R0 : mR) (out : mI) (hf : f_X9_measures K a0 I0 J0 R0 = some out) : Met l yX9_measures (mWs yX9_measures cX9_measures 4 none) ({ frames := 4, cells := 0, slots := 0, locals := 96 }) (va_Pc [.ref (g.2.1 a0)] (mB g K n I0 J0 R0)) (mQ g K n none out J0 R0) 0 0 (mA g n) := by
  unfold f_X9_measures at hf
  refine mStart RX9 hJ hO (by decide) rfl (Nat.le_of_ble_eq_true rfl) ?_
  intro p e s m below meth c ls Qm hQm B hr hlk hw hl
  have hx := B.1.1
  have hb := B.1.2.1
  have hl : lv_has ls 4 [(0, .ref (g.2.1 a0))] := hl
  have L14 : ∀ (N : Nat) (v0 : Nat) (v1 : Int32) (v2 : Int32) (I : mI) (z : mI) (H : Heap) (locs : List Loc) (ls : Array Slot), f_X9_measures_L14 K v0 v1 J0 R0 N v2 I = some z → mHp g K n s I J0 R0 H locs → lv_has ls 4 [(0, .ref (g.2.1 v0)), (1, .int v1), (2, .int v2)] → (∀ (H : Heap) (locs : List Loc) (ls : Array Slot), mHp g K n s z J0 R0 H locs → lv_has ls 4 [(0, .ref (g.2.1 v0)), (1, .int v1)] → W p l e ({ frames := 4, cells := 0, slots := 0, locals := 96 } : Room) s m ([.ref (g.2.1 a0)] : List Value).toArray below meth c H locs 0 0 Qm (F0 m 93 ls [])) → W p l e ({ frames := 4, cells := 0, slots := 0, locals := 96 } : Room) s m ([.ref (g.2.1 a0)] : List Value).toArray below meth c H locs 0 0 Qm (F0 m 14 ls []) := by
    intro N
    induction N with
    | zero =>
      intro v0 v1 v2 I z H locs ls hf hw hl kx
      rw [f_X9_measures_L14] at hf
      cases hf
    | succ N ih =>
      intro v0 v1 v2 I z H locs ls hf hw hl kx
      rw [f_X9_measures_L14] at hf
      refine lv_iload_n hx hb dX9_measures_14 rfl (lv_at hl 2 rfl) ?_
      refine lv_aload_n hx hb dX9_measures_15 rfl (lv_at hl 0 rfl) ?_
      obtain ⟨h1, hf⟩ := mChk hf
      obtain ⟨x2, e3, hf⟩ := mBind hf
      refine mgr B hw flX9_7 rfl h1 e3 dX9_measures_16 ?_
      refine lv_iconst (v := (0 : Int32)) hx hb dX9_measures_19 (by decide) ?_
      obtain ⟨h4, hf⟩ := mChk hf
      refine mld1 B hw h4 dX9_measures_20 ?_
      refine lv_icmp_ge (tgt := 93) hx hb dX9_measures_21 (by decide) (fun c5 => ?_) (fun c5 => ?_)
      · replace hf := mT1 c5 hf
        obtain rfl := Option.some.inj hf
        exact kx _ _ _ hw (lv_sub hl [0, 1] rfl)
      · replace hf := mF1 c5 hf
        refine lv_aload_n hx hb dX9_measures_24 rfl (lv_at hl 0 rfl) ?_
        obtain ⟨x6, e7, hf⟩ := mBind hf
        refine mgr B hw flX9_25 rfl h1 e7 dX9_measures_25 ?_
        refine lv_iload_n hx hb dX9_measures_28 rfl (lv_at hl 1 rfl) ?_
        obtain ⟨h8, hf⟩ := mChk hf
        refine mld1 B hw h8 dX9_measures_29 ?_
        refine lv_iload_n hx hb dX9_measures_30 rfl (lv_at hl 1 rfl) ?_
        refine lv_icmp_ne (tgt := 56) hx hb dX9_measures_31 (by decide) (fun c9 => ?_) (fun c9 => ?_)
        · replace hf := mF1 c9 hf
          refine lv_iconst (v := (0 : Int32)) hx hb dX9_measures_56 (by decide) ?_
          refine lv_istore_n (lv' := [(3, .int (0 : Int32)), (0, .ref (g.2.1 v0)), (1, .int v1), (2, .int v2)]) hx hb dX9_measures_57 rfl hl (by decide) rfl (fun ls hl => ?_)
          refine lv_aload_n hx hb dX9_measures_58 rfl (lv_at hl 1 rfl) ?_
          obtain ⟨x10, e11, hf⟩ := mBind hf
          refine mgr B hw flX9_31 rfl h1 e11 dX9_measures_59 ?_
          refine lv_bipush (v := (12 : Int32)) hx hb dX9_measures_62 (by decide) ?_
          refine lv_iload_n hx hb dX9_measures_64 rfl (lv_at hl 2 rfl) ?_
          refine lv_imul hx hb dX9_measures_65 ?_
          refine lv_iload_n hx hb dX9_measures_66 rfl (lv_at hl 3 rfl) ?_
          refine lv_iadd hx hb dX9_measures_67 ?_
          refine lv_iload_n hx hb dX9_measures_68 rfl (lv_at hl 0 rfl) ?_
          refine lv_if_eq (tgt := 85) hx hb dX9_measures_69 (by decide) (fun _ => ?_) (fun c => absurd (by decide) c)
          refine lv_iconst (v := (0 : Int32)) hx hb dX9_measures_85 (by decide) ?_
          obtain ⟨h13, hf⟩ := mChk hf
          obtain ⟨I14, e15, hf⟩ := mLet hf
          refine mst1 B hw h13 dX9_measures_86 (fun H locs hw => ?_)
          rw [← e15] at hw
          refine lv_iinc (v := (v2 + (1 : Int32))) (lv' := [(2, .int (v2 + (1 : Int32))), (3, .int (0 : Int32)), (0, .ref (g.2.1 v0)), (1, .int v1)]) hx hb dX9_measures_87 hl (k := 3) rfl rfl (by decide) rfl (fun ls hl => ?_)
          refine lv_goto (tgt := 14) hx hb dX9_measures_90 (by decide) ?_
          exact ih v0 v1 (v2 + (1 : Int32)) I14 z _ _ _ hf hw (lv_sub hl [2, 3, 0] rfl) kx
        · replace hf := mT1 c9 hf
          refine lv_aload_n hx hb dX9_measures_34 rfl (lv_at hl 0 rfl) ?_
          obtain ⟨x16, e17, hf⟩ := mBind hf
          refine mgr B hw flX9_28 rfl h1 e17 dX9_measures_35 ?_
          refine lv_iload_n hx hb dX9_measures_38 rfl (lv_at hl 1 rfl) ?_
          obtain ⟨h18, hf⟩ := mChk hf
          refine mld1 B hw h18 dX9_measures_39 ?_
          refine lv_iconst (v := (-1 : Int32)) hx hb dX9_measures_40 (by decide) ?_
          refine lv_icmp_ne (tgt := 56) hx hb dX9_measures_41 (by decide) (fun c19 => ?_) (fun c19 => ?_)
          · replace hf := mF1 c19 hf
            refine lv_iconst (v := (0 : Int32)) hx hb dX9_measures_56 (by decide) ?_
            refine lv_istore_n (lv' := [(3, .int (0 : Int32)), (0, .ref (g.2.1 v0)), (1, .int v1), (2, .int v2)]) hx hb dX9_measures_57 rfl hl (by decide) rfl (fun ls hl => ?_)
            refine lv_aload_n hx hb dX9_measures_58 rfl (lv_at hl 1 rfl) ?_
            obtain ⟨x20, e21, hf⟩ := mBind hf
            refine mgr B hw flX9_31 rfl h1 e21 dX9_measures_59 ?_
            refine lv_bipush (v := (12 : Int32)) hx hb dX9_measures_62 (by decide) ?_
            refine lv_iload_n hx hb dX9_measures_64 rfl (lv_at hl 2 rfl) ?_
            refine lv_imul hx hb dX9_measures_65 ?_
            refine lv_iload_n hx hb dX9_measures_66 rfl (lv_at hl 3 rfl) ?_
            refine lv_iadd hx hb dX9_measures_67 ?_
            refine lv_iload_n hx hb dX9_measures_68 rfl (lv_at hl 0 rfl) ?_
            refine lv_if_eq (tgt := 85) hx hb dX9_measures_69 (by decide) (fun _ => ?_) (fun c => absurd (by decide) c)
            refine lv_iconst (v := (0 : Int32)) hx hb dX9_measures_85 (by decide) ?_
            obtain ⟨h23, hf⟩ := mChk hf
            obtain ⟨I24, e25, hf⟩ := mLet hf
            refine mst1 B hw h23 dX9_measures_86 (fun H locs hw => ?_)
            rw [← e25] at hw
            refine lv_iinc (v := (v2 + (1 : Int32))) (lv' := [(2, .int (v2 + (1 : Int32))), (3, .int (0 : Int32)), (0, .ref (g.2.1 v0)), (1, .int v1)]) hx hb dX9_measures_87 hl (k := 3) rfl rfl (by decide) rfl (fun ls hl => ?_)
            refine lv_goto (tgt := 14) hx hb dX9_measures_90 (by decide) ?_
            exact ih v0 v1 (v2 + (1 : Int32)) I24 z _ _ _ hf hw (lv_sub hl [2, 3, 0] rfl) kx
          · replace hf := mT1 c19 hf
            refine lv_aload_n hx hb dX9_measures_44 rfl (lv_at hl 0 rfl) ?_
            refine lv_iload_n hx hb dX9_measures_45 rfl (lv_at hl 2 rfl) ?_
            obtain ⟨z26, e27, hf⟩ := mBind hf
            refine mcallV (rest := []) (ci := 9) B hw [.int v2] clX9_125 rfl h1 (r_X9_isNamed l g K n hJ hO v0 v2 I J0 R0 z26 e27) ⟨rfl, rfl, Nat.le_of_ble_eq_true rfl, Nat.le_of_ble_eq_true rfl⟩ rfl hl.1 (Nat.le_of_ble_eq_true rfl) ⟨Nat.zero_le _, Nat.zero_le _⟩ dX9_measures_46 (fun H locs hw => ?_)
            refine W.eq (g2 := F0 m 49 ls [.int (mb z26)]) rfl ?_
            refine lv_if_ne (tgt := 56) hx hb dX9_measures_49 (by decide) (fun c28 => ?_) (fun c28 => ?_)
            · replace hf := mF1 c28 hf
              refine lv_iconst (v := (0 : Int32)) hx hb dX9_measures_56 (by decide) ?_
              refine lv_istore_n (lv' := [(3, .int (0 : Int32)), (0, .ref (g.2.1 v0)), (1, .int v1), (2, .int v2)]) hx hb dX9_measures_57 rfl hl (by decide) rfl (fun ls hl => ?_)
              refine lv_aload_n hx hb dX9_measures_58 rfl (lv_at hl 1 rfl) ?_
              obtain ⟨x29, e30, hf⟩ := mBind hf
              refine mgr B hw flX9_31 rfl h1 e30 dX9_measures_59 ?_
              refine lv_bipush (v := (12 : Int32)) hx hb dX9_measures_62 (by decide) ?_
              refine lv_iload_n hx hb dX9_measures_64 rfl (lv_at hl 2 rfl) ?_
              refine lv_imul hx hb dX9_measures_65 ?_
              refine lv_iload_n hx hb dX9_measures_66 rfl (lv_at hl 3 rfl) ?_
              refine lv_iadd hx hb dX9_measures_67 ?_
              refine lv_iload_n hx hb dX9_measures_68 rfl (lv_at hl 0 rfl) ?_
              refine lv_if_eq (tgt := 85) hx hb dX9_measures_69 (by decide) (fun _ => ?_) (fun c => absurd (by decide) c)
              refine lv_iconst (v := (0 : Int32)) hx hb dX9_measures_85 (by decide) ?_
              obtain ⟨h32, hf⟩ := mChk hf
              obtain ⟨I33, e34, hf⟩ := mLet hf
              refine mst1 B hw h32 dX9_measures_86 (fun H locs hw => ?_)
              rw [← e34] at hw
              refine lv_iinc (v := (v2 + (1 : Int32))) (lv' := [(2, .int (v2 + (1 : Int32))), (3, .int (0 : Int32)), (0, .ref (g.2.1 v0)), (1, .int v1)]) hx hb dX9_measures_87 hl (k := 3) rfl rfl (by decide) rfl (fun ls hl => ?_)
              refine lv_goto (tgt := 14) hx hb dX9_measures_90 (by decide) ?_
              exact ih v0 v1 (v2 + (1 : Int32)) I33 z _ _ _ hf hw (lv_sub hl [2, 3, 0] rfl) kx
            · replace hf := mT1 c28 hf
              refine lv_iconst (v := (1 : Int32)) hx hb dX9_measures_52 (by decide) ?_
              refine lv_goto (tgt := 57) hx hb dX9_measures_53 (by decide) ?_
              refine lv_istore_n (lv' := [(3, .int (1 : Int32)), (0, .ref (g.2.1 v0)), (1, .int v1), (2, .int v2)]) hx hb dX9_measures_57 rfl hl (by decide) rfl (fun ls hl => ?_)
              refine lv_aload_n hx hb dX9_measures_58 rfl (lv_at hl 1 rfl) ?_
              obtain ⟨x35, e36, hf⟩ := mBind hf
              refine mgr B hw flX9_31 rfl h1 e36 dX9_measures_59 ?_
              refine lv_bipush (v := (12 : Int32)) hx hb dX9_measures_62 (by decide) ?_
              refine lv_iload_n hx hb dX9_measures_64 rfl (lv_at hl 2 rfl) ?_
              refine lv_imul hx hb dX9_measures_65 ?_
              refine lv_iload_n hx hb dX9_measures_66 rfl (lv_at hl 3 rfl) ?_
              refine lv_iadd hx hb dX9_measures_67 ?_
              refine lv_iload_n hx hb dX9_measures_68 rfl (lv_at hl 0 rfl) ?_
              refine lv_if_eq (tgt := 85) hx hb dX9_measures_69 (by decide) (fun c => absurd c (by decide)) (fun _ => ?_)
              refine lv_iconst (v := (0 : Int32)) hx hb dX9_measures_72 (by decide) ?_
              refine lv_aload_n hx hb dX9_measures_73 rfl (lv_at hl 1 rfl) ?_
              refine lv_iload_n hx hb dX9_measures_74 rfl (lv_at hl 2 rfl) ?_
              refine lv_iload_n hx hb dX9_measures_75 rfl (lv_at hl 3 rfl) ?_
              obtain ⟨z38, e39, hf⟩ := mBind hf
              refine mcallV (rest := [.int (0 : Int32), .int (((12 : Int32) * v1) + v2), .ref (g.2.1 x35)]) (ci := 9) B hw [.int v1, .int v2] clX9_122 rfl h1 (r_X9_pointsOf l g K n hJ hO v0 v1 v2 I J0 R0 z38 e39) ⟨rfl, rfl, Nat.le_of_ble_eq_true rfl, Nat.le_of_ble_eq_true rfl⟩ rfl hl.1 (Nat.le_of_ble_eq_true rfl) ⟨Nat.zero_le _, Nat.zero_le _⟩ dX9_measures_76 (fun H locs hw => ?_)
              refine W.eq (g2 := F0 m 79 ls [.int z38, .int (0 : Int32), .int (((12 : Int32) * v1) + v2), .ref (g.2.1 x35)]) rfl ?_
              refine mmmax B hl.1 mhX9_82 (Nat.le_of_ble_eq_true rfl) (Nat.le_of_ble_eq_true rfl) (Nat.zero_le _) (Nat.zero_le _) dX9_measures_79 ?_
              refine lv_goto (tgt := 86) hx hb dX9_measures_82 (by decide) ?_
              obtain ⟨h40, hf⟩ := mChk hf
              obtain ⟨I41, e42, hf⟩ := mLet hf
              refine mst1 B hw h40 dX9_measures_86 (fun H locs hw => ?_)
              rw [← e42] at hw
              refine lv_iinc (v := (v2 + (1 : Int32))) (lv' := [(2, .int (v2 + (1 : Int32))), (3, .int (1 : Int32)), (0, .ref (g.2.1 v0)), (1, .int v1)]) hx hb dX9_measures_87 hl (k := 3) rfl rfl (by decide) rfl (fun ls hl => ?_)
              refine lv_goto (tgt := 14) hx hb dX9_measures_90 (by decide) ?_
              exact ih v0 v1 (v2 + (1 : Int32)) I41 z _ _ _ hf hw (lv_sub hl [2, 3, 0] rfl) kx
  have L2 : ∀ (N : Nat) (v0 : Nat) (v1 : Int32) (I : mI) (z : mI) (H : Heap) (locs : List Loc) (ls : Array Slot), f_X9_measures_L2 K v0 J0 R0 N v1 I = some z → mHp g K n s I J0 R0 H locs → lv_has ls 4 [(0, .ref (g.2.1 v0)), (1, .int v1)] → (∀ (H : Heap) (locs : List Loc) (ls : Array Slot), mHp g K n s z J0 R0 H locs → lv_has ls 4 [] → W p l e ({ frames := 4, cells := 0, slots := 0, locals := 96 } : Room) s m ([.ref (g.2.1 a0)] : List Value).toArray below meth c H locs 0 0 Qm (F0 m 99 ls [])) → W p l e ({ frames := 4, cells := 0, slots := 0, locals := 96 } : Room) s m ([.ref (g.2.1 a0)] : List Value).toArray below meth c H locs 0 0 Qm (F0 m 2 ls []) := by
    intro N
    induction N with
    | zero =>
      intro v0 v1 I z H locs ls hf hw hl kx
      rw [f_X9_measures_L2] at hf
      cases hf
    | succ N ih =>
      intro v0 v1 I z H locs ls hf hw hl kx
      rw [f_X9_measures_L2] at hf
      refine lv_iload_n hx hb dX9_measures_2 rfl (lv_at hl 1 rfl) ?_
      refine lv_aload_n hx hb dX9_measures_3 rfl (lv_at hl 0 rfl) ?_
      obtain ⟨h43, hf⟩ := mChk hf
      obtain ⟨x44, e45, hf⟩ := mBind hf
      refine mgr B hw flX9_7 rfl h43 e45 dX9_measures_4 ?_
      refine lv_iconst (v := (1 : Int32)) hx hb dX9_measures_7 (by decide) ?_
      obtain ⟨h46, hf⟩ := mChk hf
      refine mld1 B hw h46 dX9_measures_8 ?_
      refine lv_icmp_ge (tgt := 99) hx hb dX9_measures_9 (by decide) (fun c47 => ?_) (fun c47 => ?_)
      · replace hf := mT1 c47 hf
        obtain rfl := Option.some.inj hf
        exact kx _ _ _ hw (lv_sub hl [] rfl)
      · replace hf := mF1 c47 hf
        refine lv_iconst (v := (0 : Int32)) hx hb dX9_measures_12 (by decide) ?_
        refine lv_istore_n (lv' := [(2, .int (0 : Int32)), (0, .ref (g.2.1 v0)), (1, .int v1)]) hx hb dX9_measures_13 rfl hl (by decide) rfl (fun ls hl => ?_)
        obtain ⟨z48, e49, hf⟩ := mBind hf
        refine L14 8192 v0 v1 (0 : Int32) I z48 _ _ _ e49 hw (lv_sub hl [1, 2, 0] rfl) (fun H locs ls hw hl => ?_)
        refine lv_iinc (v := (v1 + (1 : Int32))) (lv' := [(1, .int (v1 + (1 : Int32))), (0, .ref (g.2.1 v0))]) hx hb dX9_measures_93 hl (k := 1) rfl rfl (by decide) rfl (fun ls hl => ?_)
        refine lv_goto (tgt := 2) hx hb dX9_measures_96 (by decide) ?_
        exact ih v0 (v1 + (1 : Int32)) z48 z _ _ _ hf hw (lv_sub hl [1, 0] rfl) kx
  refine lv_iconst (v := (0 : Int32)) hx hb dX9_measures_0 (by decide) ?_
  refine lv_istore_n (lv' := [(1, .int (0 : Int32)), (0, .ref (g.2.1 a0))]) hx hb dX9_measures_1 rfl hl (by decide) rfl (fun ls hl => ?_)
  obtain ⟨z50, e51, hf⟩ := mBind hf
  refine L2 8192 a0 (0 : Int32) I0 z50 _ _ _ e51 hw (lv_sub hl [1, 0] rfl) (fun H locs ls hw hl => ?_)
  rw [hQm, ← Option.some.inj hf]
  exact mrv hx hb hr hlk hw dX9_measures_99
def f_X9_pairs_L18 (K : mK) (v0 : Nat) (v1 : Int32) (v2 : Int32) (J0 : mJ) (R0 : mR) : Nat → Int32 → mI → Option mI
  | 0, _, _ => none
  | N + 1, v3, I =>
  if v2 ≤ v3 then
  some I
  else
  if K v0 = (0, 9) then
  (R0 v0 8).bind fun x3 =>
  if mIx K x3 1 (((4096 : Int32) * v1) + v3) then
  (some (mup I x3 ((((4096 : Int32) * v1) + v3)).toNatClampNeg (0 : Int32))).bind fun I6 =>
  f_X9_pairs_L18 K v0 v1 v2 J0 R0 N (v3 + (1 : Int32)) I6
  else none
  else none
def f_X9_pairs_L81 (K : mK) (v0 : Nat) (v2 : Int32) (v3 : Int32) (v4 : Int32) (I : mI) (J0 : mJ) (R0 : mR) : Nat → Int32 → Int32 → Option Int32
  | 0, _, _ => none
  | N + 1, v5, v6 =>
  if K v0 = (0, 9) then
  (R0 v0 0).bind fun x9 =>
  if mIx K x9 1 (0 : Int32) then
  if (I x9 ((0 : Int32)).toNatClampNeg) ≤ v6 then
  some v5
  else
  if ((v4 >>> (v6 &&& 31)) &&& (1 : Int32)) = 0 then
  (R0 v0 7).bind fun x14 =>
  if mIx K x14 1 (((12 : Int32) * v3) + v6) then
  if (I x14 ((((12 : Int32) * v3) + v6)).toNatClampNeg) ≤ 0 then
  f_X9_pairs_L81 K v0 v2 v3 v4 I J0 R0 N v5 (v6 + (1 : Int32))
  else
  (R0 v0 8).bind fun x18 =>
  if mIx K x18 1 ((((4096 : Int32) * v3) + (4096 : Int32)) + (v4 ||| ((1 : Int32) <<< (v6 &&& 31)))) then
  (some (imax v5 ((I x14 ((((12 : Int32) * v3) + v6)).toNatClampNeg) + (I x18 (((((4096 : Int32) * v3) + (4096 : Int32)) + (v4 ||| ((1 : Int32) <<< (v6 &&& 31))))).toNatClampNeg)))).bind fun y21 =>
  f_X9_pairs_L81 K v0 v2 v3 v4 I J0 R0 N y21 (v6 + (1 : Int32))
  else none
  else none
  else
  f_X9_pairs_L81 K v0 v2 v3 v4 I J0 R0 N v5 (v6 + (1 : Int32))
  else none
  else none
def f_X9_pairs_L53 (K : mK) (v0 : Nat) (v2 : Int32) (v3 : Int32) (J0 : mJ) (R0 : mR) : Nat → Int32 → mI → Option mI
  | 0, _, _ => none
  | N + 1, v4, I =>
  if v2 ≤ v4 then
  some I
  else
  if K v0 = (0, 9) then
  (R0 v0 8).bind fun x25 =>
  if mIx K x25 1 ((((4096 : Int32) * v3) + (4096 : Int32)) + v4) then
  (some (I x25 (((((4096 : Int32) * v3) + (4096 : Int32)) + v4)).toNatClampNeg)).bind fun y28 =>
  (f_X9_pairs_L81 K v0 v2 v3 v4 I J0 R0 8192 y28 (0 : Int32)).bind fun z30 =>
  if mIx K x25 1 (((4096 : Int32) * v3) + v4) then
  (some (mup I x25 ((((4096 : Int32) * v3) + v4)).toNatClampNeg z30)).bind fun I33 =>
  f_X9_pairs_L53 K v0 v2 v3 J0 R0 N (v4 + (1 : Int32)) I33
  else none
  else none
  else none
def f_X9_pairs_L46 (K : mK) (v0 : Nat) (v2 : Int32) (J0 : mJ) (R0 : mR) : Nat → Int32 → mI → Option mI
  | 0, _, _ => none
  | N + 1, v3, I =>
  if v3 < 0 then
  some I
  else
  (f_X9_pairs_L53 K v0 v2 v3 J0 R0 8192 (0 : Int32) I).bind fun z36 =>
  f_X9_pairs_L46 K v0 v2 J0 R0 N (v3 + (-1 : Int32)) z36
def f_X9_pairs (K : mK) (a0 : Nat) (I0 : mI) (J0 : mJ) (R0 : mR) : Option (Int32 × mI) :=
  if K a0 = (0, 9) then
  (R0 a0 0).bind fun x39 =>
  if mIx K x39 1 (1 : Int32) then
  if mIx K x39 1 (0 : Int32) then
  (some ((1 : Int32) <<< ((I0 x39 ((0 : Int32)).toNatClampNeg) &&& 31))).bind fun y43 =>
  (f_X9_pairs_L18 K a0 (I0 x39 ((1 : Int32)).toNatClampNeg) y43 J0 R0 8192 (0 : Int32) I0).bind fun z45 =>
  (f_X9_pairs_L46 K a0 y43 J0 R0 8192 ((I0 x39 ((1 : Int32)).toNatClampNeg) - (1 : Int32)) z45).bind fun z47 =>
  (R0 a0 8).bind fun x49 =>
  if mIx K x49 1 (0 : Int32) then
  some ((z47 x49 ((0 : Int32)).toNatClampNeg), z47)
  else none
  else none
  else none
  else none
set_option maxHeartbeats 4000000 in
set_option maxRecDepth 100000 in
theorem r_X9_pairs (l : Launch) (g : mG) (K : mK) (n : Nat) (hJ : mInj g n) (hO : mOk K n) (a0 : Nat) (I0 : mI) (J0 : mJ) (R0 : mR) (out : (Int32 × mI)) (hf : f_X9_pairs K a0 I0 J0 R0 = some out) : Met l yX9_pairs (mWs yX9_pairs cX9_pairs 7 (some .int)) ({ frames := 1, cells := 0, slots := 0, locals := 21 }) (va_Pc [.ref (g.2.1 a0)] (mB g K n I0 J0 R0)) (mQ g K n (some (.int out.1)) out.2 J0 R0) 0 0 (mA g n) := by
  unfold f_X9_pairs at hf
  refine mStart RX9 hJ hO (by decide) rfl (Nat.le_of_ble_eq_true rfl) ?_
  intro p e s m below meth c ls Qm hQm B hr hlk hw hl
  have hx := B.1.1
  have hb := B.1.2.1
  have hl : lv_has ls 7 [(0, .ref (g.2.1 a0))] := hl
  have L18 : ∀ (N : Nat) (v0 : Nat) (v1 : Int32) (v2 : Int32) (v3 : Int32) (I : mI) (z : mI) (H : Heap) (locs : List Loc) (ls : Array Slot), f_X9_pairs_L18 K v0 v1 v2 J0 R0 N v3 I = some z → mHp g K n s I J0 R0 H locs → lv_has ls 7 [(0, .ref (g.2.1 v0)), (1, .int v1), (2, .int v2), (3, .int v3)] → (∀ (H : Heap) (locs : List Loc) (ls : Array Slot), mHp g K n s z J0 R0 H locs → lv_has ls 7 [(0, .ref (g.2.1 v0)), (1, .int v1), (2, .int v2)] → W p l e ({ frames := 1, cells := 0, slots := 0, locals := 21 } : Room) s m ([.ref (g.2.1 a0)] : List Value).toArray below meth c H locs 0 0 Qm (F0 m 42 ls [])) → W p l e ({ frames := 1, cells := 0, slots := 0, locals := 21 } : Room) s m ([.ref (g.2.1 a0)] : List Value).toArray below meth c H locs 0 0 Qm (F0 m 18 ls []) := by
    intro N
    induction N with
    | zero =>
      intro v0 v1 v2 v3 I z H locs ls hf hw hl kx
      rw [f_X9_pairs_L18] at hf
      cases hf
    | succ N ih =>
      intro v0 v1 v2 v3 I z H locs ls hf hw hl kx
      rw [f_X9_pairs_L18] at hf
      refine lv_iload_n hx hb dX9_pairs_18 rfl (lv_at hl 3 rfl) ?_
      refine lv_iload_n hx hb dX9_pairs_19 rfl (lv_at hl 2 rfl) ?_
      refine lv_icmp_ge (tgt := 42) hx hb dX9_pairs_20 (by decide) (fun c1 => ?_) (fun c1 => ?_)
      · replace hf := mT1 c1 hf
        obtain rfl := Option.some.inj hf
        exact kx _ _ _ hw (lv_sub hl [0, 1, 2] rfl)
      · replace hf := mF1 c1 hf
        refine lv_aload_n hx hb dX9_pairs_23 rfl (lv_at hl 0 rfl) ?_
        obtain ⟨h2, hf⟩ := mChk hf
        obtain ⟨x3, e4, hf⟩ := mBind hf
        refine mgr B hw flX9_35 rfl h2 e4 dX9_pairs_24 ?_
        refine lv_sipush (v := (4096 : Int32)) hx hb dX9_pairs_27 (by decide) ?_
        refine lv_iload_n hx hb dX9_pairs_30 rfl (lv_at hl 1 rfl) ?_
        refine lv_imul hx hb dX9_pairs_31 ?_
        refine lv_iload_n hx hb dX9_pairs_32 rfl (lv_at hl 3 rfl) ?_
        refine lv_iadd hx hb dX9_pairs_33 ?_
        refine lv_iconst (v := (0 : Int32)) hx hb dX9_pairs_34 (by decide) ?_
        obtain ⟨h5, hf⟩ := mChk hf
        obtain ⟨I6, e7, hf⟩ := mLet hf
        refine mst1 B hw h5 dX9_pairs_35 (fun H locs hw => ?_)
        rw [← e7] at hw
        refine lv_iinc (v := (v3 + (1 : Int32))) (lv' := [(3, .int (v3 + (1 : Int32))), (0, .ref (g.2.1 v0)), (1, .int v1), (2, .int v2)]) hx hb dX9_pairs_36 hl (k := 3) rfl rfl (by decide) rfl (fun ls hl => ?_)
        refine lv_goto (tgt := 18) hx hb dX9_pairs_39 (by decide) ?_
        exact ih v0 v1 v2 (v3 + (1 : Int32)) I6 z _ _ _ hf hw (lv_sub hl [1, 2, 3, 0] rfl) kx
  have L81 : ∀ (N : Nat) (v0 : Nat) (v2 : Int32) (v3 : Int32) (v4 : Int32) (v5 : Int32) (v6 : Int32) (I : mI) (z : Int32) (H : Heap) (locs : List Loc) (ls : Array Slot), f_X9_pairs_L81 K v0 v2 v3 v4 I J0 R0 N v5 v6 = some z → mHp g K n s I J0 R0 H locs → lv_has ls 7 [(0, .ref (g.2.1 v0)), (2, .int v2), (3, .int v3), (4, .int v4), (5, .int v5), (6, .int v6)] → (∀ (H : Heap) (locs : List Loc) (ls : Array Slot), mHp g K n s I J0 R0 H locs → lv_has ls 7 [(0, .ref (g.2.1 v0)), (2, .int v2), (3, .int v3), (4, .int v4), (5, .int z)] → W p l e ({ frames := 1, cells := 0, slots := 0, locals := 21 } : Room) s m ([.ref (g.2.1 a0)] : List Value).toArray below meth c H locs 0 0 Qm (F0 m 165 ls [])) → W p l e ({ frames := 1, cells := 0, slots := 0, locals := 21 } : Room) s m ([.ref (g.2.1 a0)] : List Value).toArray below meth c H locs 0 0 Qm (F0 m 81 ls []) := by
    intro N
    induction N with
    | zero =>
      intro v0 v2 v3 v4 v5 v6 I z H locs ls hf hw hl kx
      rw [f_X9_pairs_L81] at hf
      cases hf
    | succ N ih =>
      intro v0 v2 v3 v4 v5 v6 I z H locs ls hf hw hl kx
      rw [f_X9_pairs_L81] at hf
      refine lv_iload hx hb dX9_pairs_81 (lv_at hl 5 rfl) ?_
      refine lv_aload_n hx hb dX9_pairs_83 rfl (lv_at hl 0 rfl) ?_
      obtain ⟨h8, hf⟩ := mChk hf
      obtain ⟨x9, e10, hf⟩ := mBind hf
      refine mgr B hw flX9_7 rfl h8 e10 dX9_pairs_84 ?_
      refine lv_iconst (v := (0 : Int32)) hx hb dX9_pairs_87 (by decide) ?_
      obtain ⟨h11, hf⟩ := mChk hf
      refine mld1 B hw h11 dX9_pairs_88 ?_
      refine lv_icmp_ge (tgt := 165) hx hb dX9_pairs_89 (by decide) (fun c12 => ?_) (fun c12 => ?_)
      · replace hf := mT1 c12 hf
        obtain rfl := Option.some.inj hf
        exact kx _ _ _ hw (lv_sub hl [0, 1, 2, 3, 4] rfl)
      · replace hf := mF1 c12 hf
        refine lv_iload hx hb dX9_pairs_92 (lv_at hl 3 rfl) ?_
        refine lv_iload hx hb dX9_pairs_94 (lv_at hl 5 rfl) ?_
        refine lv_ishr hx hb dX9_pairs_96 ?_
        refine lv_iconst (v := (1 : Int32)) hx hb dX9_pairs_97 (by decide) ?_
        refine lv_iand hx hb dX9_pairs_98 ?_
        refine lv_if_ne (tgt := 159) hx hb dX9_pairs_99 (by decide) (fun c13 => ?_) (fun c13 => ?_)
        · replace hf := mF1 c13 hf
          refine lv_iinc (v := (v6 + (1 : Int32))) (lv' := [(6, .int (v6 + (1 : Int32))), (0, .ref (g.2.1 v0)), (2, .int v2), (3, .int v3), (4, .int v4), (5, .int v5)]) hx hb dX9_pairs_159 hl (k := 5) rfl rfl (by decide) rfl (fun ls hl => ?_)
          refine lv_goto (tgt := 81) hx hb dX9_pairs_162 (by decide) ?_
          exact ih v0 v2 v3 v4 v5 (v6 + (1 : Int32)) I z _ _ _ hf hw (lv_sub hl [1, 2, 3, 4, 5, 0] rfl) kx
        · replace hf := mT1 c13 hf
          refine lv_aload_n hx hb dX9_pairs_102 rfl (lv_at hl 0 rfl) ?_
          obtain ⟨x14, e15, hf⟩ := mBind hf
          refine mgr B hw flX9_31 rfl h8 e15 dX9_pairs_103 ?_
          refine lv_bipush (v := (12 : Int32)) hx hb dX9_pairs_106 (by decide) ?_
          refine lv_iload_n hx hb dX9_pairs_108 rfl (lv_at hl 2 rfl) ?_
          refine lv_imul hx hb dX9_pairs_109 ?_
          refine lv_iload hx hb dX9_pairs_110 (lv_at hl 5 rfl) ?_
          refine lv_iadd hx hb dX9_pairs_112 ?_
          obtain ⟨h16, hf⟩ := mChk hf
          refine mld1 B hw h16 dX9_pairs_113 ?_
          refine lv_if_le (tgt := 159) hx hb dX9_pairs_114 (by decide) (fun c17 => ?_) (fun c17 => ?_)
          · replace hf := mT1 c17 hf
            refine lv_iinc (v := (v6 + (1 : Int32))) (lv' := [(6, .int (v6 + (1 : Int32))), (0, .ref (g.2.1 v0)), (2, .int v2), (3, .int v3), (4, .int v4), (5, .int v5)]) hx hb dX9_pairs_159 hl (k := 5) rfl rfl (by decide) rfl (fun ls hl => ?_)
            refine lv_goto (tgt := 81) hx hb dX9_pairs_162 (by decide) ?_
            exact ih v0 v2 v3 v4 v5 (v6 + (1 : Int32)) I z _ _ _ hf hw (lv_sub hl [1, 2, 3, 4, 5, 0] rfl) kx
          · replace hf := mF1 c17 hf
            refine lv_iload hx hb dX9_pairs_117 (lv_at hl 4 rfl) ?_
            refine lv_aload_n hx hb dX9_pairs_119 rfl (lv_at hl 0 rfl) ?_
            refine mgr B hw flX9_31 rfl h8 e15 dX9_pairs_120 ?_
            refine lv_bipush (v := (12 : Int32)) hx hb dX9_pairs_123 (by decide) ?_
            refine lv_iload_n hx hb dX9_pairs_125 rfl (lv_at hl 2 rfl) ?_
            refine lv_imul hx hb dX9_pairs_126 ?_
            refine lv_iload hx hb dX9_pairs_127 (lv_at hl 5 rfl) ?_
            refine lv_iadd hx hb dX9_pairs_129 ?_
            refine mld1 B hw h16 dX9_pairs_130 ?_
            refine lv_aload_n hx hb dX9_pairs_131 rfl (lv_at hl 0 rfl) ?_
            obtain ⟨x18, e19, hf⟩ := mBind hf
            refine mgr B hw flX9_35 rfl h8 e19 dX9_pairs_132 ?_
            refine lv_sipush (v := (4096 : Int32)) hx hb dX9_pairs_135 (by decide) ?_
            refine lv_iload_n hx hb dX9_pairs_138 rfl (lv_at hl 2 rfl) ?_
            refine lv_imul hx hb dX9_pairs_139 ?_
            refine lv_sipush (v := (4096 : Int32)) hx hb dX9_pairs_140 (by decide) ?_
            refine lv_iadd hx hb dX9_pairs_143 ?_
            refine lv_iload hx hb dX9_pairs_144 (lv_at hl 3 rfl) ?_
            refine lv_iconst (v := (1 : Int32)) hx hb dX9_pairs_146 (by decide) ?_
            refine lv_iload hx hb dX9_pairs_147 (lv_at hl 5 rfl) ?_
            refine lv_ishl hx hb dX9_pairs_149 ?_
            refine lv_ior hx hb dX9_pairs_150 ?_
            refine lv_iadd hx hb dX9_pairs_151 ?_
            obtain ⟨h20, hf⟩ := mChk hf
            refine mld1 B hw h20 dX9_pairs_152 ?_
            refine lv_iadd hx hb dX9_pairs_153 ?_
            refine mmmax B hl.1 mhX9_82 (Nat.le_of_ble_eq_true rfl) (Nat.le_of_ble_eq_true rfl) (Nat.zero_le _) (Nat.zero_le _) dX9_pairs_154 ?_
            obtain ⟨y21, e22, hf⟩ := mLet hf
            rw [← e22]
            refine lv_istore (lv' := [(5, .int y21), (0, .ref (g.2.1 v0)), (2, .int v2), (3, .int v3), (4, .int v4), (6, .int v6)]) hx hb dX9_pairs_157 hl (by decide) rfl (fun ls hl => ?_)
            refine lv_iinc (v := (v6 + (1 : Int32))) (lv' := [(6, .int (v6 + (1 : Int32))), (5, .int y21), (0, .ref (g.2.1 v0)), (2, .int v2), (3, .int v3), (4, .int v4)]) hx hb dX9_pairs_159 hl (k := 5) rfl rfl (by decide) rfl (fun ls hl => ?_)
            refine lv_goto (tgt := 81) hx hb dX9_pairs_162 (by decide) ?_
            exact ih v0 v2 v3 v4 y21 (v6 + (1 : Int32)) I z _ _ _ hf hw (lv_sub hl [2, 3, 4, 5, 1, 0] rfl) kx
  have L53 : ∀ (N : Nat) (v0 : Nat) (v2 : Int32) (v3 : Int32) (v4 : Int32) (I : mI) (z : mI) (H : Heap) (locs : List Loc) (ls : Array Slot), f_X9_pairs_L53 K v0 v2 v3 J0 R0 N v4 I = some z → mHp g K n s I J0 R0 H locs → lv_has ls 7 [(0, .ref (g.2.1 v0)), (2, .int v2), (3, .int v3), (4, .int v4)] → (∀ (H : Heap) (locs : List Loc) (ls : Array Slot), mHp g K n s z J0 R0 H locs → lv_has ls 7 [(0, .ref (g.2.1 v0)), (2, .int v2), (3, .int v3)] → W p l e ({ frames := 1, cells := 0, slots := 0, locals := 21 } : Room) s m ([.ref (g.2.1 a0)] : List Value).toArray below meth c H locs 0 0 Qm (F0 m 186 ls [])) → W p l e ({ frames := 1, cells := 0, slots := 0, locals := 21 } : Room) s m ([.ref (g.2.1 a0)] : List Value).toArray below meth c H locs 0 0 Qm (F0 m 53 ls []) := by
    intro N
    induction N with
    | zero =>
      intro v0 v2 v3 v4 I z H locs ls hf hw hl kx
      rw [f_X9_pairs_L53] at hf
      cases hf
    | succ N ih =>
      intro v0 v2 v3 v4 I z H locs ls hf hw hl kx
      rw [f_X9_pairs_L53] at hf
      refine lv_iload hx hb dX9_pairs_53 (lv_at hl 3 rfl) ?_
      refine lv_iload_n hx hb dX9_pairs_55 rfl (lv_at hl 1 rfl) ?_
      refine lv_icmp_ge (tgt := 186) hx hb dX9_pairs_56 (by decide) (fun c23 => ?_) (fun c23 => ?_)
      · replace hf := mT1 c23 hf
        obtain rfl := Option.some.inj hf
        exact kx _ _ _ hw (lv_sub hl [0, 1, 2] rfl)
      · replace hf := mF1 c23 hf
        refine lv_aload_n hx hb dX9_pairs_59 rfl (lv_at hl 0 rfl) ?_
        obtain ⟨h24, hf⟩ := mChk hf
        obtain ⟨x25, e26, hf⟩ := mBind hf
        refine mgr B hw flX9_35 rfl h24 e26 dX9_pairs_60 ?_
        refine lv_sipush (v := (4096 : Int32)) hx hb dX9_pairs_63 (by decide) ?_
        refine lv_iload_n hx hb dX9_pairs_66 rfl (lv_at hl 2 rfl) ?_
        refine lv_imul hx hb dX9_pairs_67 ?_
        refine lv_sipush (v := (4096 : Int32)) hx hb dX9_pairs_68 (by decide) ?_
        refine lv_iadd hx hb dX9_pairs_71 ?_
        refine lv_iload hx hb dX9_pairs_72 (lv_at hl 3 rfl) ?_
        refine lv_iadd hx hb dX9_pairs_74 ?_
        obtain ⟨h27, hf⟩ := mChk hf
        refine mld1 B hw h27 dX9_pairs_75 ?_
        obtain ⟨y28, e29, hf⟩ := mLet hf
        rw [← e29]
        refine lv_istore (lv' := [(5, .int y28), (0, .ref (g.2.1 v0)), (2, .int v2), (3, .int v3), (4, .int v4)]) hx hb dX9_pairs_76 hl (by decide) rfl (fun ls hl => ?_)
        refine lv_iconst (v := (0 : Int32)) hx hb dX9_pairs_78 (by decide) ?_
        refine lv_istore (lv' := [(6, .int (0 : Int32)), (5, .int y28), (0, .ref (g.2.1 v0)), (2, .int v2), (3, .int v3), (4, .int v4)]) hx hb dX9_pairs_79 hl (by decide) rfl (fun ls hl => ?_)
        obtain ⟨z30, e31, hf⟩ := mBind hf
        refine L81 8192 v0 v2 v3 v4 y28 (0 : Int32) I z30 _ _ _ e31 hw (lv_sub hl [2, 3, 4, 5, 1, 0] rfl) (fun H locs ls hw hl => ?_)
        refine lv_aload_n hx hb dX9_pairs_165 rfl (lv_at hl 0 rfl) ?_
        refine mgr B hw flX9_35 rfl h24 e26 dX9_pairs_166 ?_
        refine lv_sipush (v := (4096 : Int32)) hx hb dX9_pairs_169 (by decide) ?_
        refine lv_iload_n hx hb dX9_pairs_172 rfl (lv_at hl 2 rfl) ?_
        refine lv_imul hx hb dX9_pairs_173 ?_
        refine lv_iload hx hb dX9_pairs_174 (lv_at hl 3 rfl) ?_
        refine lv_iadd hx hb dX9_pairs_176 ?_
        refine lv_iload hx hb dX9_pairs_177 (lv_at hl 4 rfl) ?_
        obtain ⟨h32, hf⟩ := mChk hf
        obtain ⟨I33, e34, hf⟩ := mLet hf
        refine mst1 B hw h32 dX9_pairs_179 (fun H locs hw => ?_)
        rw [← e34] at hw
        refine lv_iinc (v := (v4 + (1 : Int32))) (lv' := [(4, .int (v4 + (1 : Int32))), (0, .ref (g.2.1 v0)), (2, .int v2), (3, .int v3), (5, .int z30)]) hx hb dX9_pairs_180 hl (k := 3) rfl rfl (by decide) rfl (fun ls hl => ?_)
        refine lv_goto (tgt := 53) hx hb dX9_pairs_183 (by decide) ?_
        exact ih v0 v2 v3 (v4 + (1 : Int32)) I33 z _ _ _ hf hw (lv_sub hl [1, 2, 3, 0] rfl) kx
  have L46 : ∀ (N : Nat) (v0 : Nat) (v2 : Int32) (v3 : Int32) (I : mI) (z : mI) (H : Heap) (locs : List Loc) (ls : Array Slot), f_X9_pairs_L46 K v0 v2 J0 R0 N v3 I = some z → mHp g K n s I J0 R0 H locs → lv_has ls 7 [(0, .ref (g.2.1 v0)), (2, .int v2), (3, .int v3)] → (∀ (H : Heap) (locs : List Loc) (ls : Array Slot), mHp g K n s z J0 R0 H locs → lv_has ls 7 [(0, .ref (g.2.1 v0))] → W p l e ({ frames := 1, cells := 0, slots := 0, locals := 21 } : Room) s m ([.ref (g.2.1 a0)] : List Value).toArray below meth c H locs 0 0 Qm (F0 m 192 ls [])) → W p l e ({ frames := 1, cells := 0, slots := 0, locals := 21 } : Room) s m ([.ref (g.2.1 a0)] : List Value).toArray below meth c H locs 0 0 Qm (F0 m 46 ls []) := by
    intro N
    induction N with
    | zero =>
      intro v0 v2 v3 I z H locs ls hf hw hl kx
      rw [f_X9_pairs_L46] at hf
      cases hf
    | succ N ih =>
      intro v0 v2 v3 I z H locs ls hf hw hl kx
      rw [f_X9_pairs_L46] at hf
      refine lv_iload_n hx hb dX9_pairs_46 rfl (lv_at hl 2 rfl) ?_
      refine lv_if_lt (tgt := 192) hx hb dX9_pairs_47 (by decide) (fun c35 => ?_) (fun c35 => ?_)
      · replace hf := mT1 c35 hf
        obtain rfl := Option.some.inj hf
        exact kx _ _ _ hw (lv_sub hl [0] rfl)
      · replace hf := mF1 c35 hf
        refine lv_iconst (v := (0 : Int32)) hx hb dX9_pairs_50 (by decide) ?_
        refine lv_istore (lv' := [(4, .int (0 : Int32)), (0, .ref (g.2.1 v0)), (2, .int v2), (3, .int v3)]) hx hb dX9_pairs_51 hl (by decide) rfl (fun ls hl => ?_)
        obtain ⟨z36, e37, hf⟩ := mBind hf
        refine L53 8192 v0 v2 v3 (0 : Int32) I z36 _ _ _ e37 hw (lv_sub hl [1, 2, 3, 0] rfl) (fun H locs ls hw hl => ?_)
        refine lv_iinc (v := (v3 + (-1 : Int32))) (lv' := [(3, .int (v3 + (-1 : Int32))), (0, .ref (g.2.1 v0)), (2, .int v2)]) hx hb dX9_pairs_186 hl (k := 2) rfl rfl (by decide) rfl (fun ls hl => ?_)
        refine lv_goto (tgt := 46) hx hb dX9_pairs_189 (by decide) ?_
        exact ih v0 v2 (v3 + (-1 : Int32)) z36 z _ _ _ hf hw (lv_sub hl [1, 2, 0] rfl) kx
  refine lv_aload_n hx hb dX9_pairs_0 rfl (lv_at hl 0 rfl) ?_
  obtain ⟨h38, hf⟩ := mChk hf
  obtain ⟨x39, e40, hf⟩ := mBind hf
  refine mgr B hw flX9_7 rfl h38 e40 dX9_pairs_1 ?_
  refine lv_iconst (v := (1 : Int32)) hx hb dX9_pairs_4 (by decide) ?_
  obtain ⟨h41, hf⟩ := mChk hf
  refine mld1 B hw h41 dX9_pairs_5 ?_
  refine lv_istore_n (lv' := [(1, .int (I0 x39 ((1 : Int32)).toNatClampNeg)), (0, .ref (g.2.1 a0))]) hx hb dX9_pairs_6 rfl hl (by decide) rfl (fun ls hl => ?_)
  refine lv_iconst (v := (1 : Int32)) hx hb dX9_pairs_7 (by decide) ?_
  refine lv_aload_n hx hb dX9_pairs_8 rfl (lv_at hl 1 rfl) ?_
  refine mgr B hw flX9_7 rfl h38 e40 dX9_pairs_9 ?_
  refine lv_iconst (v := (0 : Int32)) hx hb dX9_pairs_12 (by decide) ?_
  obtain ⟨h42, hf⟩ := mChk hf
  refine mld1 B hw h42 dX9_pairs_13 ?_
  refine lv_ishl hx hb dX9_pairs_14 ?_
  obtain ⟨y43, e44, hf⟩ := mLet hf
  rw [← e44]
  refine lv_istore_n (lv' := [(2, .int y43), (1, .int (I0 x39 ((1 : Int32)).toNatClampNeg)), (0, .ref (g.2.1 a0))]) hx hb dX9_pairs_15 rfl hl (by decide) rfl (fun ls hl => ?_)
  refine lv_iconst (v := (0 : Int32)) hx hb dX9_pairs_16 (by decide) ?_
  refine lv_istore_n (lv' := [(3, .int (0 : Int32)), (2, .int y43), (1, .int (I0 x39 ((1 : Int32)).toNatClampNeg)), (0, .ref (g.2.1 a0))]) hx hb dX9_pairs_17 rfl hl (by decide) rfl (fun ls hl => ?_)
  obtain ⟨z45, e46, hf⟩ := mBind hf
  refine L18 8192 a0 (I0 x39 ((1 : Int32)).toNatClampNeg) y43 (0 : Int32) I0 z45 _ _ _ e46 hw (lv_sub hl [3, 2, 1, 0] rfl) (fun H locs ls hw hl => ?_)
  refine lv_iload_n hx hb dX9_pairs_42 rfl (lv_at hl 1 rfl) ?_
  refine lv_iconst (v := (1 : Int32)) hx hb dX9_pairs_43 (by decide) ?_
  refine lv_isub hx hb dX9_pairs_44 ?_
  refine lv_istore_n (lv' := [(3, .int ((I0 x39 ((1 : Int32)).toNatClampNeg) - (1 : Int32))), (0, .ref (g.2.1 a0)), (1, .int (I0 x39 ((1 : Int32)).toNatClampNeg)), (2, .int y43)]) hx hb dX9_pairs_45 rfl hl (by decide) rfl (fun ls hl => ?_)
  obtain ⟨z47, e48, hf⟩ := mBind hf
  refine L46 8192 a0 y43 ((I0 x39 ((1 : Int32)).toNatClampNeg) - (1 : Int32)) z45 z47 _ _ _ e48 hw (lv_sub hl [1, 3, 0] rfl) (fun H locs ls hw hl => ?_)
  refine lv_aload_n hx hb dX9_pairs_192 rfl (lv_at hl 0 rfl) ?_
  obtain ⟨x49, e50, hf⟩ := mBind hf
  refine mgr B hw flX9_35 rfl h38 e50 dX9_pairs_193 ?_
  refine lv_iconst (v := (0 : Int32)) hx hb dX9_pairs_196 (by decide) ?_
  obtain ⟨h51, hf⟩ := mChk hf
  refine mld1 B hw h51 dX9_pairs_197 ?_
  rw [hQm, ← Option.some.inj hf]
  exact mri hx hb hr hlk hw dX9_pairs_198
def f_X9_shares_L39 (K : mK) (v0 : Nat) (v1 : Int32) (v2 : Int32) (J0 : mJ) (R0 : mR) : Nat → Int32 → mI → Option mI
  | 0, _, _ => none
  | N + 1, v3, I =>
  if v3 < 0 then
  some I
  else
  if ((v1 >>> (v3 &&& 31)) &&& (1 : Int32)) = 0 then
  if K v0 = (0, 9) then
  (R0 v0 7).bind fun x4 =>
  if mIx K x4 1 (((12 : Int32) * v2) + v3) then
  if (I x4 ((((12 : Int32) * v2) + v3)).toNatClampNeg) ≤ 0 then
  f_X9_shares_L39 K v0 v1 v2 J0 R0 N (v3 + (-1 : Int32)) I
  else
  (R0 v0 8).bind fun x8 =>
  if mIx K x8 1 ((((4096 : Int32) * v2) + (4096 : Int32)) + (v1 ||| ((1 : Int32) <<< (v3 &&& 31)))) then
  if mIx K x8 1 (((4096 : Int32) * v2) + v1) then
  if ((I x4 ((((12 : Int32) * v2) + v3)).toNatClampNeg) + (I x8 (((((4096 : Int32) * v2) + (4096 : Int32)) + (v1 ||| ((1 : Int32) <<< (v3 &&& 31))))).toNatClampNeg)) = (I x8 ((((4096 : Int32) * v2) + v1)).toNatClampNeg) then
  (R0 v0 9).bind fun x13 =>
  if mIx K x13 1 v2 then
  (some (mup I x13 (v2).toNatClampNeg v3)).bind fun I16 =>
  f_X9_shares_L39 K v0 v1 v2 J0 R0 N (v3 + (-1 : Int32)) I16
  else none
  else
  f_X9_shares_L39 K v0 v1 v2 J0 R0 N (v3 + (-1 : Int32)) I
  else none
  else none
  else none
  else none
  else
  f_X9_shares_L39 K v0 v1 v2 J0 R0 N (v3 + (-1 : Int32)) I
def f_X9_shares_L13 (K : mK) (v0 : Nat) (J0 : mJ) (R0 : mR) : Nat → Int32 → Int32 → mI → Option mI
  | 0, _, _, _ => none
  | N + 1, v1, v2, I =>
  if K v0 = (0, 9) then
  (R0 v0 0).bind fun x19 =>
  if mIx K x19 1 (1 : Int32) then
  if (I x19 ((1 : Int32)).toNatClampNeg) ≤ v2 then
  some I
  else
  (R0 v0 9).bind fun x23 =>
  if mIx K x23 1 v2 then
  (some (mup I x23 (v2).toNatClampNeg (-1 : Int32))).bind fun I26 =>
  if mIx K x19 1 (0 : Int32) then
  (f_X9_shares_L39 K v0 v1 v2 J0 R0 8192 ((I26 x19 ((0 : Int32)).toNatClampNeg) - (1 : Int32)) I26).bind fun z29 =>
  if (z29 x23 (v2).toNatClampNeg) = (-1 : Int32) then
  f_X9_shares_L13 K v0 J0 R0 N v1 (v2 + (1 : Int32)) z29
  else
  (some (v1 ||| ((1 : Int32) <<< ((z29 x23 (v2).toNatClampNeg) &&& 31)))).bind fun y32 =>
  f_X9_shares_L13 K v0 J0 R0 N y32 (v2 + (1 : Int32)) z29
  else none
  else none
  else none
  else none
def f_X9_shares (K : mK) (a0 : Nat) (I0 : mI) (J0 : mJ) (R0 : mR) : Option mI :=
  if K a0 = (0, 9) then
  (f_X9_measures K a0 I0 J0 R0).bind fun z35 =>
  (f_X9_pairs K a0 z35 J0 R0).bind fun z37 =>
  (f_X9_shares_L13 K a0 J0 R0 8192 (0 : Int32) (0 : Int32) z37.2).bind fun z39 =>
  some z39
  else none
set_option maxHeartbeats 4000000 in
set_option maxRecDepth 100000 in
theorem r_X9_shares (l : Launch) (g : mG) (K : mK) (n : Nat) (hJ : mInj g n) (hO : mOk K n) (a0 : Nat) (I0 : mI) (J0 : mJ) (R0 : mR) (out : mI) (hf : f_X9_shares K a0 I0 J0 R0 = some out) : Met l yX9_shares (mWs yX9_shares cX9_shares 4 none) ({ frames := 5, cells := 0, slots := 0, locals := 119 }) (va_Pc [.ref (g.2.1 a0)] (mB g K n I0 J0 R0)) (mQ g K n none out J0 R0) 0 0 (mA g n) := by
  unfold f_X9_shares at hf
  refine mStart RX9 hJ hO (by decide) rfl (Nat.le_of_ble_eq_true rfl) ?_
  intro p e s m below meth c ls Qm hQm B hr hlk hw hl
  have hx := B.1.1
  have hb := B.1.2.1
  have hl : lv_has ls 4 [(0, .ref (g.2.1 a0))] := hl
  have L39 : ∀ (N : Nat) (v0 : Nat) (v1 : Int32) (v2 : Int32) (v3 : Int32) (I : mI) (z : mI) (H : Heap) (locs : List Loc) (ls : Array Slot), f_X9_shares_L39 K v0 v1 v2 J0 R0 N v3 I = some z → mHp g K n s I J0 R0 H locs → lv_has ls 4 [(0, .ref (g.2.1 v0)), (1, .int v1), (2, .int v2), (3, .int v3)] → (∀ (H : Heap) (locs : List Loc) (ls : Array Slot), mHp g K n s z J0 R0 H locs → lv_has ls 4 [(0, .ref (g.2.1 v0)), (1, .int v1), (2, .int v2)] → W p l e ({ frames := 5, cells := 0, slots := 0, locals := 119 } : Room) s m ([.ref (g.2.1 a0)] : List Value).toArray below meth c H locs 0 0 Qm (F0 m 125 ls [])) → W p l e ({ frames := 5, cells := 0, slots := 0, locals := 119 } : Room) s m ([.ref (g.2.1 a0)] : List Value).toArray below meth c H locs 0 0 Qm (F0 m 39 ls []) := by
    intro N
    induction N with
    | zero =>
      intro v0 v1 v2 v3 I z H locs ls hf hw hl kx
      rw [f_X9_shares_L39] at hf
      cases hf
    | succ N ih =>
      intro v0 v1 v2 v3 I z H locs ls hf hw hl kx
      rw [f_X9_shares_L39] at hf
      refine lv_iload_n hx hb dX9_shares_39 rfl (lv_at hl 3 rfl) ?_
      refine lv_if_lt (tgt := 125) hx hb dX9_shares_40 (by decide) (fun c1 => ?_) (fun c1 => ?_)
      · replace hf := mT1 c1 hf
        obtain rfl := Option.some.inj hf
        exact kx _ _ _ hw (lv_sub hl [0, 1, 2] rfl)
      · replace hf := mF1 c1 hf
        refine lv_iload_n hx hb dX9_shares_43 rfl (lv_at hl 1 rfl) ?_
        refine lv_iload_n hx hb dX9_shares_44 rfl (lv_at hl 3 rfl) ?_
        refine lv_ishr hx hb dX9_shares_45 ?_
        refine lv_iconst (v := (1 : Int32)) hx hb dX9_shares_46 (by decide) ?_
        refine lv_iand hx hb dX9_shares_47 ?_
        refine lv_if_ne (tgt := 119) hx hb dX9_shares_48 (by decide) (fun c2 => ?_) (fun c2 => ?_)
        · replace hf := mF1 c2 hf
          refine lv_iinc (v := (v3 + (-1 : Int32))) (lv' := [(3, .int (v3 + (-1 : Int32))), (0, .ref (g.2.1 v0)), (1, .int v1), (2, .int v2)]) hx hb dX9_shares_119 hl (k := 3) rfl rfl (by decide) rfl (fun ls hl => ?_)
          refine lv_goto (tgt := 39) hx hb dX9_shares_122 (by decide) ?_
          exact ih v0 v1 v2 (v3 + (-1 : Int32)) I z _ _ _ hf hw (lv_sub hl [1, 2, 3, 0] rfl) kx
        · replace hf := mT1 c2 hf
          refine lv_aload_n hx hb dX9_shares_51 rfl (lv_at hl 0 rfl) ?_
          obtain ⟨h3, hf⟩ := mChk hf
          obtain ⟨x4, e5, hf⟩ := mBind hf
          refine mgr B hw flX9_31 rfl h3 e5 dX9_shares_52 ?_
          refine lv_bipush (v := (12 : Int32)) hx hb dX9_shares_55 (by decide) ?_
          refine lv_iload_n hx hb dX9_shares_57 rfl (lv_at hl 2 rfl) ?_
          refine lv_imul hx hb dX9_shares_58 ?_
          refine lv_iload_n hx hb dX9_shares_59 rfl (lv_at hl 3 rfl) ?_
          refine lv_iadd hx hb dX9_shares_60 ?_
          obtain ⟨h6, hf⟩ := mChk hf
          refine mld1 B hw h6 dX9_shares_61 ?_
          refine lv_if_le (tgt := 119) hx hb dX9_shares_62 (by decide) (fun c7 => ?_) (fun c7 => ?_)
          · replace hf := mT1 c7 hf
            refine lv_iinc (v := (v3 + (-1 : Int32))) (lv' := [(3, .int (v3 + (-1 : Int32))), (0, .ref (g.2.1 v0)), (1, .int v1), (2, .int v2)]) hx hb dX9_shares_119 hl (k := 3) rfl rfl (by decide) rfl (fun ls hl => ?_)
            refine lv_goto (tgt := 39) hx hb dX9_shares_122 (by decide) ?_
            exact ih v0 v1 v2 (v3 + (-1 : Int32)) I z _ _ _ hf hw (lv_sub hl [1, 2, 3, 0] rfl) kx
          · replace hf := mF1 c7 hf
            refine lv_aload_n hx hb dX9_shares_65 rfl (lv_at hl 0 rfl) ?_
            refine mgr B hw flX9_31 rfl h3 e5 dX9_shares_66 ?_
            refine lv_bipush (v := (12 : Int32)) hx hb dX9_shares_69 (by decide) ?_
            refine lv_iload_n hx hb dX9_shares_71 rfl (lv_at hl 2 rfl) ?_
            refine lv_imul hx hb dX9_shares_72 ?_
            refine lv_iload_n hx hb dX9_shares_73 rfl (lv_at hl 3 rfl) ?_
            refine lv_iadd hx hb dX9_shares_74 ?_
            refine mld1 B hw h6 dX9_shares_75 ?_
            refine lv_aload_n hx hb dX9_shares_76 rfl (lv_at hl 0 rfl) ?_
            obtain ⟨x8, e9, hf⟩ := mBind hf
            refine mgr B hw flX9_35 rfl h3 e9 dX9_shares_77 ?_
            refine lv_sipush (v := (4096 : Int32)) hx hb dX9_shares_80 (by decide) ?_
            refine lv_iload_n hx hb dX9_shares_83 rfl (lv_at hl 2 rfl) ?_
            refine lv_imul hx hb dX9_shares_84 ?_
            refine lv_sipush (v := (4096 : Int32)) hx hb dX9_shares_85 (by decide) ?_
            refine lv_iadd hx hb dX9_shares_88 ?_
            refine lv_iload_n hx hb dX9_shares_89 rfl (lv_at hl 1 rfl) ?_
            refine lv_iconst (v := (1 : Int32)) hx hb dX9_shares_90 (by decide) ?_
            refine lv_iload_n hx hb dX9_shares_91 rfl (lv_at hl 3 rfl) ?_
            refine lv_ishl hx hb dX9_shares_92 ?_
            refine lv_ior hx hb dX9_shares_93 ?_
            refine lv_iadd hx hb dX9_shares_94 ?_
            obtain ⟨h10, hf⟩ := mChk hf
            refine mld1 B hw h10 dX9_shares_95 ?_
            refine lv_iadd hx hb dX9_shares_96 ?_
            refine lv_aload_n hx hb dX9_shares_97 rfl (lv_at hl 0 rfl) ?_
            refine mgr B hw flX9_35 rfl h3 e9 dX9_shares_98 ?_
            refine lv_sipush (v := (4096 : Int32)) hx hb dX9_shares_101 (by decide) ?_
            refine lv_iload_n hx hb dX9_shares_104 rfl (lv_at hl 2 rfl) ?_
            refine lv_imul hx hb dX9_shares_105 ?_
            refine lv_iload_n hx hb dX9_shares_106 rfl (lv_at hl 1 rfl) ?_
            refine lv_iadd hx hb dX9_shares_107 ?_
            obtain ⟨h11, hf⟩ := mChk hf
            refine mld1 B hw h11 dX9_shares_108 ?_
            refine lv_icmp_ne (tgt := 119) hx hb dX9_shares_109 (by decide) (fun c12 => ?_) (fun c12 => ?_)
            · replace hf := mF1 c12 hf
              refine lv_iinc (v := (v3 + (-1 : Int32))) (lv' := [(3, .int (v3 + (-1 : Int32))), (0, .ref (g.2.1 v0)), (1, .int v1), (2, .int v2)]) hx hb dX9_shares_119 hl (k := 3) rfl rfl (by decide) rfl (fun ls hl => ?_)
              refine lv_goto (tgt := 39) hx hb dX9_shares_122 (by decide) ?_
              exact ih v0 v1 v2 (v3 + (-1 : Int32)) I z _ _ _ hf hw (lv_sub hl [1, 2, 3, 0] rfl) kx
            · replace hf := mT1 c12 hf
              refine lv_aload_n hx hb dX9_shares_112 rfl (lv_at hl 0 rfl) ?_
              obtain ⟨x13, e14, hf⟩ := mBind hf
              refine mgr B hw flX9_38 rfl h3 e14 dX9_shares_113 ?_
              refine lv_iload_n hx hb dX9_shares_116 rfl (lv_at hl 2 rfl) ?_
              refine lv_iload_n hx hb dX9_shares_117 rfl (lv_at hl 3 rfl) ?_
              obtain ⟨h15, hf⟩ := mChk hf
              obtain ⟨I16, e17, hf⟩ := mLet hf
              refine mst1 B hw h15 dX9_shares_118 (fun H locs hw => ?_)
              rw [← e17] at hw
              refine lv_iinc (v := (v3 + (-1 : Int32))) (lv' := [(3, .int (v3 + (-1 : Int32))), (0, .ref (g.2.1 v0)), (1, .int v1), (2, .int v2)]) hx hb dX9_shares_119 hl (k := 3) rfl rfl (by decide) rfl (fun ls hl => ?_)
              refine lv_goto (tgt := 39) hx hb dX9_shares_122 (by decide) ?_
              exact ih v0 v1 v2 (v3 + (-1 : Int32)) I16 z _ _ _ hf hw (lv_sub hl [1, 2, 3, 0] rfl) kx
  have L13 : ∀ (N : Nat) (v0 : Nat) (v1 : Int32) (v2 : Int32) (I : mI) (z : mI) (H : Heap) (locs : List Loc) (ls : Array Slot), f_X9_shares_L13 K v0 J0 R0 N v1 v2 I = some z → mHp g K n s I J0 R0 H locs → lv_has ls 4 [(0, .ref (g.2.1 v0)), (1, .int v1), (2, .int v2)] → (∀ (H : Heap) (locs : List Loc) (ls : Array Slot), mHp g K n s z J0 R0 H locs → lv_has ls 4 [] → W p l e ({ frames := 5, cells := 0, slots := 0, locals := 119 } : Room) s m ([.ref (g.2.1 a0)] : List Value).toArray below meth c H locs 0 0 Qm (F0 m 152 ls [])) → W p l e ({ frames := 5, cells := 0, slots := 0, locals := 119 } : Room) s m ([.ref (g.2.1 a0)] : List Value).toArray below meth c H locs 0 0 Qm (F0 m 13 ls []) := by
    intro N
    induction N with
    | zero =>
      intro v0 v1 v2 I z H locs ls hf hw hl kx
      rw [f_X9_shares_L13] at hf
      cases hf
    | succ N ih =>
      intro v0 v1 v2 I z H locs ls hf hw hl kx
      rw [f_X9_shares_L13] at hf
      refine lv_iload_n hx hb dX9_shares_13 rfl (lv_at hl 2 rfl) ?_
      refine lv_aload_n hx hb dX9_shares_14 rfl (lv_at hl 0 rfl) ?_
      obtain ⟨h18, hf⟩ := mChk hf
      obtain ⟨x19, e20, hf⟩ := mBind hf
      refine mgr B hw flX9_7 rfl h18 e20 dX9_shares_15 ?_
      refine lv_iconst (v := (1 : Int32)) hx hb dX9_shares_18 (by decide) ?_
      obtain ⟨h21, hf⟩ := mChk hf
      refine mld1 B hw h21 dX9_shares_19 ?_
      refine lv_icmp_ge (tgt := 152) hx hb dX9_shares_20 (by decide) (fun c22 => ?_) (fun c22 => ?_)
      · replace hf := mT1 c22 hf
        obtain rfl := Option.some.inj hf
        exact kx _ _ _ hw (lv_sub hl [] rfl)
      · replace hf := mF1 c22 hf
        refine lv_aload_n hx hb dX9_shares_23 rfl (lv_at hl 0 rfl) ?_
        obtain ⟨x23, e24, hf⟩ := mBind hf
        refine mgr B hw flX9_38 rfl h18 e24 dX9_shares_24 ?_
        refine lv_iload_n hx hb dX9_shares_27 rfl (lv_at hl 2 rfl) ?_
        refine lv_iconst (v := (-1 : Int32)) hx hb dX9_shares_28 (by decide) ?_
        obtain ⟨h25, hf⟩ := mChk hf
        obtain ⟨I26, e27, hf⟩ := mLet hf
        refine mst1 B hw h25 dX9_shares_29 (fun H locs hw => ?_)
        rw [← e27] at hw
        refine lv_aload_n hx hb dX9_shares_30 rfl (lv_at hl 0 rfl) ?_
        refine mgr B hw flX9_7 rfl h18 e20 dX9_shares_31 ?_
        refine lv_iconst (v := (0 : Int32)) hx hb dX9_shares_34 (by decide) ?_
        obtain ⟨h28, hf⟩ := mChk hf
        refine mld1 B hw h28 dX9_shares_35 ?_
        refine lv_iconst (v := (1 : Int32)) hx hb dX9_shares_36 (by decide) ?_
        refine lv_isub hx hb dX9_shares_37 ?_
        refine lv_istore_n (lv' := [(3, .int ((I26 x19 ((0 : Int32)).toNatClampNeg) - (1 : Int32))), (0, .ref (g.2.1 v0)), (1, .int v1), (2, .int v2)]) hx hb dX9_shares_38 rfl hl (by decide) rfl (fun ls hl => ?_)
        obtain ⟨z29, e30, hf⟩ := mBind hf
        refine L39 8192 v0 v1 v2 ((I26 x19 ((0 : Int32)).toNatClampNeg) - (1 : Int32)) I26 z29 _ _ _ e30 hw (lv_sub hl [1, 2, 3, 0] rfl) (fun H locs ls hw hl => ?_)
        refine lv_aload_n hx hb dX9_shares_125 rfl (lv_at hl 0 rfl) ?_
        refine mgr B hw flX9_38 rfl h18 e24 dX9_shares_126 ?_
        refine lv_iload_n hx hb dX9_shares_129 rfl (lv_at hl 2 rfl) ?_
        refine mld1 B hw h25 dX9_shares_130 ?_
        refine lv_iconst (v := (-1 : Int32)) hx hb dX9_shares_131 (by decide) ?_
        refine lv_icmp_eq (tgt := 146) hx hb dX9_shares_132 (by decide) (fun c31 => ?_) (fun c31 => ?_)
        · replace hf := mT1 c31 hf
          refine lv_iinc (v := (v2 + (1 : Int32))) (lv' := [(2, .int (v2 + (1 : Int32))), (0, .ref (g.2.1 v0)), (1, .int v1)]) hx hb dX9_shares_146 hl (k := 2) rfl rfl (by decide) rfl (fun ls hl => ?_)
          refine lv_goto (tgt := 13) hx hb dX9_shares_149 (by decide) ?_
          exact ih v0 v1 (v2 + (1 : Int32)) z29 z _ _ _ hf hw (lv_sub hl [1, 2, 0] rfl) kx
        · replace hf := mF1 c31 hf
          refine lv_iload_n hx hb dX9_shares_135 rfl (lv_at hl 1 rfl) ?_
          refine lv_iconst (v := (1 : Int32)) hx hb dX9_shares_136 (by decide) ?_
          refine lv_aload_n hx hb dX9_shares_137 rfl (lv_at hl 0 rfl) ?_
          refine mgr B hw flX9_38 rfl h18 e24 dX9_shares_138 ?_
          refine lv_iload_n hx hb dX9_shares_141 rfl (lv_at hl 2 rfl) ?_
          refine mld1 B hw h25 dX9_shares_142 ?_
          refine lv_ishl hx hb dX9_shares_143 ?_
          refine lv_ior hx hb dX9_shares_144 ?_
          obtain ⟨y32, e33, hf⟩ := mLet hf
          rw [← e33]
          refine lv_istore_n (lv' := [(1, .int y32), (0, .ref (g.2.1 v0)), (2, .int v2)]) hx hb dX9_shares_145 rfl hl (by decide) rfl (fun ls hl => ?_)
          refine lv_iinc (v := (v2 + (1 : Int32))) (lv' := [(2, .int (v2 + (1 : Int32))), (1, .int y32), (0, .ref (g.2.1 v0))]) hx hb dX9_shares_146 hl (k := 2) rfl rfl (by decide) rfl (fun ls hl => ?_)
          refine lv_goto (tgt := 13) hx hb dX9_shares_149 (by decide) ?_
          exact ih v0 y32 (v2 + (1 : Int32)) z29 z _ _ _ hf hw (lv_sub hl [2, 1, 0] rfl) kx
  refine lv_aload_n hx hb dX9_shares_0 rfl (lv_at hl 0 rfl) ?_
  obtain ⟨h34, hf⟩ := mChk hf
  obtain ⟨z35, e36, hf⟩ := mBind hf
  refine mcallV (rest := []) (ci := 9) B hw [] clX9_129 rfl h34 (r_X9_measures l g K n hJ hO a0 I0 J0 R0 z35 e36) ⟨rfl, rfl, Nat.le_of_ble_eq_true rfl, Nat.le_of_ble_eq_true rfl⟩ rfl hl.1 (Nat.le_of_ble_eq_true rfl) ⟨Nat.zero_le _, Nat.zero_le _⟩ dX9_shares_1 (fun H locs hw => ?_)
  refine W.eq (g2 := F0 m 4 ls []) rfl ?_
  refine lv_aload_n hx hb dX9_shares_4 rfl (lv_at hl 0 rfl) ?_
  obtain ⟨z37, e38, hf⟩ := mBind hf
  refine mcallV (rest := []) (ci := 9) B hw [] clX9_132 rfl h34 (r_X9_pairs l g K n hJ hO a0 z35 J0 R0 z37 e38) ⟨rfl, rfl, Nat.le_of_ble_eq_true rfl, Nat.le_of_ble_eq_true rfl⟩ rfl hl.1 (Nat.le_of_ble_eq_true rfl) ⟨Nat.zero_le _, Nat.zero_le _⟩ dX9_shares_5 (fun H locs hw => ?_)
  refine W.eq (g2 := F0 m 8 ls [.int z37.1]) rfl ?_
  refine lv_pop hx hb dX9_shares_8 rfl ?_
  refine lv_iconst (v := (0 : Int32)) hx hb dX9_shares_9 (by decide) ?_
  refine lv_istore_n (lv' := [(1, .int (0 : Int32)), (0, .ref (g.2.1 a0))]) hx hb dX9_shares_10 rfl hl (by decide) rfl (fun ls hl => ?_)
  refine lv_iconst (v := (0 : Int32)) hx hb dX9_shares_11 (by decide) ?_
  refine lv_istore_n (lv' := [(2, .int (0 : Int32)), (1, .int (0 : Int32)), (0, .ref (g.2.1 a0))]) hx hb dX9_shares_12 rfl hl (by decide) rfl (fun ls hl => ?_)
  obtain ⟨z39, e40, hf⟩ := mBind hf
  refine L13 8192 a0 (0 : Int32) (0 : Int32) z37.2 z39 _ _ _ e40 hw (lv_sub hl [2, 1, 0] rfl) (fun H locs ls hw hl => ?_)
  rw [hQm, ← Option.some.inj hf]
  exact mrv hx hb hr hlk hw dX9_shares_152
def f_X9_pairing (K : mK) (a0 : Nat) (a1 : Int32) (I0 : mI) (J0 : mJ) (R0 : mR) : Option (Int32 × mI) :=
  if a1 = (-1 : Int32) then
  if K a0 = (0, 9) then
  (f_X9_shares K a0 I0 J0 R0).bind fun z3 =>
  if a1 = (-1 : Int32) then
  (R0 a0 8).bind fun x16 =>
  if mIx K x16 1 (0 : Int32) then
  some ((z3 x16 ((0 : Int32)).toNatClampNeg), z3)
  else none
  else
  (R0 a0 5).bind fun x6 =>
  if mIx K x6 1 a1 then
  (R0 a0 6).bind fun x9 =>
  if mIx K x9 1 (z3 x6 (a1).toNatClampNeg) then
  if (z3 x9 ((z3 x6 (a1).toNatClampNeg)).toNatClampNeg) = (-1 : Int32) then
  (R0 a0 9).bind fun x13 =>
  if mIx K x13 1 (z3 x6 (a1).toNatClampNeg) then
  some ((z3 x13 ((z3 x6 (a1).toNatClampNeg)).toNatClampNeg), z3)
  else none
  else
  some ((z3 x9 ((z3 x6 (a1).toNatClampNeg)).toNatClampNeg), z3)
  else none
  else none
  else none
  else
  if K a0 = (0, 9) then
  (f_X9_isFile K a0 (1 : Int32) a1 I0 J0 R0).bind fun z20 =>
  if (mb z20) = 0 then
  some ((-100000 : Int32), I0)
  else
  (f_X9_shares K a0 I0 J0 R0).bind fun z23 =>
  if a1 = (-1 : Int32) then
  (R0 a0 8).bind fun x36 =>
  if mIx K x36 1 (0 : Int32) then
  some ((z23 x36 ((0 : Int32)).toNatClampNeg), z23)
  else none
  else
  (R0 a0 5).bind fun x26 =>
  if mIx K x26 1 a1 then
  (R0 a0 6).bind fun x29 =>
  if mIx K x29 1 (z23 x26 (a1).toNatClampNeg) then
  if (z23 x29 ((z23 x26 (a1).toNatClampNeg)).toNatClampNeg) = (-1 : Int32) then
  (R0 a0 9).bind fun x33 =>
  if mIx K x33 1 (z23 x26 (a1).toNatClampNeg) then
  some ((z23 x33 ((z23 x26 (a1).toNatClampNeg)).toNatClampNeg), z23)
  else none
  else
  some ((z23 x29 ((z23 x26 (a1).toNatClampNeg)).toNatClampNeg), z23)
  else none
  else none
  else none
set_option maxHeartbeats 4000000 in
set_option maxRecDepth 100000 in
theorem r_X9_pairing (l : Launch) (g : mG) (K : mK) (n : Nat) (hJ : mInj g n) (hO : mOk K n) (a0 : Nat) (a1 : Int32) (I0 : mI) (J0 : mJ) (R0 : mR) (out : (Int32 × mI)) (hf : f_X9_pairing K a0 a1 I0 J0 R0 = some out) : Met l yX9_pairing (mWs yX9_pairing cX9_pairing 3 (some .int)) ({ frames := 6, cells := 0, slots := 0, locals := 142 }) (va_Pc [.ref (g.2.1 a0), .int a1] (mB g K n I0 J0 R0)) (mQ g K n (some (.int out.1)) out.2 J0 R0) 0 0 (mA g n) := by
  unfold f_X9_pairing at hf
  refine mStart RX9 hJ hO (by decide) rfl (Nat.le_of_ble_eq_true rfl) ?_
  intro p e s m below meth c ls Qm hQm B hr hlk hw hl
  have hx := B.1.1
  have hb := B.1.2.1
  have hl : lv_has ls 3 [(0, .ref (g.2.1 a0)), (1, .int a1)] := hl
  refine lv_iload_n hx hb dX9_pairing_0 rfl (lv_at hl 1 rfl) ?_
  refine lv_iconst (v := (-1 : Int32)) hx hb dX9_pairing_1 (by decide) ?_
  refine lv_icmp_eq (tgt := 17) hx hb dX9_pairing_2 (by decide) (fun c1 => ?_) (fun c1 => ?_)
  · replace hf := mT1 c1 hf
    refine lv_aload_n hx hb dX9_pairing_17 rfl (lv_at hl 0 rfl) ?_
    obtain ⟨h2, hf⟩ := mChk hf
    obtain ⟨z3, e4, hf⟩ := mBind hf
    refine mcallV (rest := []) (ci := 9) B hw [] clX9_136 rfl h2 (r_X9_shares l g K n hJ hO a0 I0 J0 R0 z3 e4) ⟨rfl, rfl, Nat.le_of_ble_eq_true rfl, Nat.le_of_ble_eq_true rfl⟩ rfl hl.1 (Nat.le_of_ble_eq_true rfl) ⟨Nat.zero_le _, Nat.zero_le _⟩ dX9_pairing_18 (fun H locs hw => ?_)
    refine W.eq (g2 := F0 m 21 ls []) rfl ?_
    refine lv_iload_n hx hb dX9_pairing_21 rfl (lv_at hl 1 rfl) ?_
    refine lv_iconst (v := (-1 : Int32)) hx hb dX9_pairing_22 (by decide) ?_
    refine lv_icmp_ne (tgt := 33) hx hb dX9_pairing_23 (by decide) (fun c5 => ?_) (fun c5 => ?_)
    · replace hf := mF1 c5 hf
      refine lv_aload_n hx hb dX9_pairing_33 rfl (lv_at hl 0 rfl) ?_
      obtain ⟨x6, e7, hf⟩ := mBind hf
      refine mgr B hw flX9_25 rfl h2 e7 dX9_pairing_34 ?_
      refine lv_iload_n hx hb dX9_pairing_37 rfl (lv_at hl 1 rfl) ?_
      obtain ⟨h8, hf⟩ := mChk hf
      refine mld1 B hw h8 dX9_pairing_38 ?_
      refine lv_istore_n (lv' := [(2, .int (z3 x6 (a1).toNatClampNeg)), (0, .ref (g.2.1 a0)), (1, .int a1)]) hx hb dX9_pairing_39 rfl hl (by decide) rfl (fun ls hl => ?_)
      refine lv_aload_n hx hb dX9_pairing_40 rfl (lv_at hl 1 rfl) ?_
      obtain ⟨x9, e10, hf⟩ := mBind hf
      refine mgr B hw flX9_28 rfl h2 e10 dX9_pairing_41 ?_
      refine lv_iload_n hx hb dX9_pairing_44 rfl (lv_at hl 0 rfl) ?_
      obtain ⟨h11, hf⟩ := mChk hf
      refine mld1 B hw h11 dX9_pairing_45 ?_
      refine lv_iconst (v := (-1 : Int32)) hx hb dX9_pairing_46 (by decide) ?_
      refine lv_icmp_eq (tgt := 59) hx hb dX9_pairing_47 (by decide) (fun c12 => ?_) (fun c12 => ?_)
      · replace hf := mT1 c12 hf
        refine lv_aload_n hx hb dX9_pairing_59 rfl (lv_at hl 1 rfl) ?_
        obtain ⟨x13, e14, hf⟩ := mBind hf
        refine mgr B hw flX9_38 rfl h2 e14 dX9_pairing_60 ?_
        refine lv_iload_n hx hb dX9_pairing_63 rfl (lv_at hl 0 rfl) ?_
        obtain ⟨h15, hf⟩ := mChk hf
        refine mld1 B hw h15 dX9_pairing_64 ?_
        rw [hQm, ← Option.some.inj hf]
        exact mri hx hb hr hlk hw dX9_pairing_65
      · replace hf := mF1 c12 hf
        refine lv_aload_n hx hb dX9_pairing_50 rfl (lv_at hl 1 rfl) ?_
        refine mgr B hw flX9_28 rfl h2 e10 dX9_pairing_51 ?_
        refine lv_iload_n hx hb dX9_pairing_54 rfl (lv_at hl 0 rfl) ?_
        refine mld1 B hw h11 dX9_pairing_55 ?_
        refine lv_goto (tgt := 65) hx hb dX9_pairing_56 (by decide) ?_
        rw [hQm, ← Option.some.inj hf]
        exact mri hx hb hr hlk hw dX9_pairing_65
    · replace hf := mT1 c5 hf
      refine lv_aload_n hx hb dX9_pairing_26 rfl (lv_at hl 0 rfl) ?_
      obtain ⟨x16, e17, hf⟩ := mBind hf
      refine mgr B hw flX9_35 rfl h2 e17 dX9_pairing_27 ?_
      refine lv_iconst (v := (0 : Int32)) hx hb dX9_pairing_30 (by decide) ?_
      obtain ⟨h18, hf⟩ := mChk hf
      refine mld1 B hw h18 dX9_pairing_31 ?_
      rw [hQm, ← Option.some.inj hf]
      exact mri hx hb hr hlk hw dX9_pairing_32
  · replace hf := mF1 c1 hf
    refine lv_aload_n hx hb dX9_pairing_5 rfl (lv_at hl 0 rfl) ?_
    refine lv_iconst (v := (1 : Int32)) hx hb dX9_pairing_6 (by decide) ?_
    refine lv_iload_n hx hb dX9_pairing_7 rfl (lv_at hl 1 rfl) ?_
    obtain ⟨h19, hf⟩ := mChk hf
    obtain ⟨z20, e21, hf⟩ := mBind hf
    refine mcallV (rest := []) (ci := 9) B hw [.int (1 : Int32), .int a1] clX9_68 rfl h19 (r_X9_isFile l g K n hJ hO a0 (1 : Int32) a1 I0 J0 R0 z20 e21) ⟨rfl, rfl, Nat.le_of_ble_eq_true rfl, Nat.le_of_ble_eq_true rfl⟩ rfl hl.1 (Nat.le_of_ble_eq_true rfl) ⟨Nat.zero_le _, Nat.zero_le _⟩ dX9_pairing_8 (fun H locs hw => ?_)
    refine W.eq (g2 := F0 m 11 ls [.int (mb z20)]) rfl ?_
    refine lv_if_ne (tgt := 17) hx hb dX9_pairing_11 (by decide) (fun c22 => ?_) (fun c22 => ?_)
    · replace hf := mF1 c22 hf
      refine lv_aload_n hx hb dX9_pairing_17 rfl (lv_at hl 0 rfl) ?_
      obtain ⟨z23, e24, hf⟩ := mBind hf
      refine mcallV (rest := []) (ci := 9) B hw [] clX9_136 rfl h19 (r_X9_shares l g K n hJ hO a0 I0 J0 R0 z23 e24) ⟨rfl, rfl, Nat.le_of_ble_eq_true rfl, Nat.le_of_ble_eq_true rfl⟩ rfl hl.1 (Nat.le_of_ble_eq_true rfl) ⟨Nat.zero_le _, Nat.zero_le _⟩ dX9_pairing_18 (fun H locs hw => ?_)
      refine W.eq (g2 := F0 m 21 ls []) rfl ?_
      refine lv_iload_n hx hb dX9_pairing_21 rfl (lv_at hl 1 rfl) ?_
      refine lv_iconst (v := (-1 : Int32)) hx hb dX9_pairing_22 (by decide) ?_
      refine lv_icmp_ne (tgt := 33) hx hb dX9_pairing_23 (by decide) (fun c25 => ?_) (fun c25 => ?_)
      · replace hf := mF1 c25 hf
        refine lv_aload_n hx hb dX9_pairing_33 rfl (lv_at hl 0 rfl) ?_
        obtain ⟨x26, e27, hf⟩ := mBind hf
        refine mgr B hw flX9_25 rfl h19 e27 dX9_pairing_34 ?_
        refine lv_iload_n hx hb dX9_pairing_37 rfl (lv_at hl 1 rfl) ?_
        obtain ⟨h28, hf⟩ := mChk hf
        refine mld1 B hw h28 dX9_pairing_38 ?_
        refine lv_istore_n (lv' := [(2, .int (z23 x26 (a1).toNatClampNeg)), (0, .ref (g.2.1 a0)), (1, .int a1)]) hx hb dX9_pairing_39 rfl hl (by decide) rfl (fun ls hl => ?_)
        refine lv_aload_n hx hb dX9_pairing_40 rfl (lv_at hl 1 rfl) ?_
        obtain ⟨x29, e30, hf⟩ := mBind hf
        refine mgr B hw flX9_28 rfl h19 e30 dX9_pairing_41 ?_
        refine lv_iload_n hx hb dX9_pairing_44 rfl (lv_at hl 0 rfl) ?_
        obtain ⟨h31, hf⟩ := mChk hf
        refine mld1 B hw h31 dX9_pairing_45 ?_
        refine lv_iconst (v := (-1 : Int32)) hx hb dX9_pairing_46 (by decide) ?_
        refine lv_icmp_eq (tgt := 59) hx hb dX9_pairing_47 (by decide) (fun c32 => ?_) (fun c32 => ?_)
        · replace hf := mT1 c32 hf
          refine lv_aload_n hx hb dX9_pairing_59 rfl (lv_at hl 1 rfl) ?_
          obtain ⟨x33, e34, hf⟩ := mBind hf
          refine mgr B hw flX9_38 rfl h19 e34 dX9_pairing_60 ?_
          refine lv_iload_n hx hb dX9_pairing_63 rfl (lv_at hl 0 rfl) ?_
          obtain ⟨h35, hf⟩ := mChk hf
          refine mld1 B hw h35 dX9_pairing_64 ?_
          rw [hQm, ← Option.some.inj hf]
          exact mri hx hb hr hlk hw dX9_pairing_65
        · replace hf := mF1 c32 hf
          refine lv_aload_n hx hb dX9_pairing_50 rfl (lv_at hl 1 rfl) ?_
          refine mgr B hw flX9_28 rfl h19 e30 dX9_pairing_51 ?_
          refine lv_iload_n hx hb dX9_pairing_54 rfl (lv_at hl 0 rfl) ?_
          refine mld1 B hw h31 dX9_pairing_55 ?_
          refine lv_goto (tgt := 65) hx hb dX9_pairing_56 (by decide) ?_
          rw [hQm, ← Option.some.inj hf]
          exact mri hx hb hr hlk hw dX9_pairing_65
      · replace hf := mT1 c25 hf
        refine lv_aload_n hx hb dX9_pairing_26 rfl (lv_at hl 0 rfl) ?_
        obtain ⟨x36, e37, hf⟩ := mBind hf
        refine mgr B hw flX9_35 rfl h19 e37 dX9_pairing_27 ?_
        refine lv_iconst (v := (0 : Int32)) hx hb dX9_pairing_30 (by decide) ?_
        obtain ⟨h38, hf⟩ := mChk hf
        refine mld1 B hw h38 dX9_pairing_31 ?_
        rw [hQm, ← Option.some.inj hf]
        exact mri hx hb hr hlk hw dX9_pairing_32
    · replace hf := mT1 c22 hf
      refine lv_ldc (v := (-100000 : Int32)) hx hb B.1.2.2.2.1 (B.1.2.2.2.2 (Cond.constant RX9 121 (-100000 : Int32)) (mT_at 852 rfl rfl)) dX9_pairing_14 ?_
      rw [hQm, ← Option.some.inj hf]
      exact mri hx hb hr hlk hw dX9_pairing_16
def f_X9_marginOf (K : mK) (a0 : Nat) (a1 : Int32) (I0 : mI) (J0 : mJ) (R0 : mR) : Option (Int32 × mI) :=
  if K a0 = (0, 9) then
  (R0 a0 8).bind fun x2 =>
  if mIx K x2 1 (0 : Int32) then
  (R0 a0 9).bind fun x5 =>
  if mIx K x5 1 a1 then
  (R0 a0 7).bind fun x8 =>
  if mIx K x8 1 (((12 : Int32) * a1) + (I0 x5 (a1).toNatClampNeg)) then
  (some (I0 x8 ((((12 : Int32) * a1) + (I0 x5 (a1).toNatClampNeg))).toNatClampNeg)).bind fun y11 =>
  (some (mup I0 x8 ((((12 : Int32) * a1) + (I0 x5 (a1).toNatClampNeg))).toNatClampNeg (0 : Int32))).bind fun I13 =>
  (f_X9_pairs K a0 I13 J0 R0).bind fun z15 =>
  (some (mup z15.2 x8 ((((12 : Int32) * a1) + (I0 x5 (a1).toNatClampNeg))).toNatClampNeg y11)).bind fun I17 =>
  some (((I0 x2 ((0 : Int32)).toNatClampNeg) - z15.1), I17)
  else none
  else none
  else none
  else none
set_option maxHeartbeats 4000000 in
set_option maxRecDepth 100000 in
theorem r_X9_marginOf (l : Launch) (g : mG) (K : mK) (n : Nat) (hJ : mInj g n) (hO : mOk K n) (a0 : Nat) (a1 : Int32) (I0 : mI) (J0 : mJ) (R0 : mR) (out : (Int32 × mI)) (hf : f_X9_marginOf K a0 a1 I0 J0 R0 = some out) : Met l yX9_marginOf (mWs yX9_marginOf cX9_marginOf 6 (some .int)) ({ frames := 2, cells := 0, slots := 0, locals := 47 }) (va_Pc [.ref (g.2.1 a0), .int a1] (mB g K n I0 J0 R0)) (mQ g K n (some (.int out.1)) out.2 J0 R0) 0 0 (mA g n) := by
  unfold f_X9_marginOf at hf
  refine mStart RX9 hJ hO (by decide) rfl (Nat.le_of_ble_eq_true rfl) ?_
  intro p e s m below meth c ls Qm hQm B hr hlk hw hl
  have hx := B.1.1
  have hb := B.1.2.1
  have hl : lv_has ls 6 [(0, .ref (g.2.1 a0)), (1, .int a1)] := hl
  refine lv_aload_n hx hb dX9_marginOf_0 rfl (lv_at hl 0 rfl) ?_
  obtain ⟨h1, hf⟩ := mChk hf
  obtain ⟨x2, e3, hf⟩ := mBind hf
  refine mgr B hw flX9_35 rfl h1 e3 dX9_marginOf_1 ?_
  refine lv_iconst (v := (0 : Int32)) hx hb dX9_marginOf_4 (by decide) ?_
  obtain ⟨h4, hf⟩ := mChk hf
  refine mld1 B hw h4 dX9_marginOf_5 ?_
  refine lv_istore_n (lv' := [(2, .int (I0 x2 ((0 : Int32)).toNatClampNeg)), (0, .ref (g.2.1 a0)), (1, .int a1)]) hx hb dX9_marginOf_6 rfl hl (by decide) rfl (fun ls hl => ?_)
  refine lv_bipush (v := (12 : Int32)) hx hb dX9_marginOf_7 (by decide) ?_
  refine lv_iload_n hx hb dX9_marginOf_9 rfl (lv_at hl 2 rfl) ?_
  refine lv_imul hx hb dX9_marginOf_10 ?_
  refine lv_aload_n hx hb dX9_marginOf_11 rfl (lv_at hl 1 rfl) ?_
  obtain ⟨x5, e6, hf⟩ := mBind hf
  refine mgr B hw flX9_38 rfl h1 e6 dX9_marginOf_12 ?_
  refine lv_iload_n hx hb dX9_marginOf_15 rfl (lv_at hl 2 rfl) ?_
  obtain ⟨h7, hf⟩ := mChk hf
  refine mld1 B hw h7 dX9_marginOf_16 ?_
  refine lv_iadd hx hb dX9_marginOf_17 ?_
  refine lv_istore_n (lv' := [(3, .int (((12 : Int32) * a1) + (I0 x5 (a1).toNatClampNeg))), (2, .int (I0 x2 ((0 : Int32)).toNatClampNeg)), (0, .ref (g.2.1 a0)), (1, .int a1)]) hx hb dX9_marginOf_18 rfl hl (by decide) rfl (fun ls hl => ?_)
  refine lv_aload_n hx hb dX9_marginOf_19 rfl (lv_at hl 2 rfl) ?_
  obtain ⟨x8, e9, hf⟩ := mBind hf
  refine mgr B hw flX9_31 rfl h1 e9 dX9_marginOf_20 ?_
  refine lv_iload_n hx hb dX9_marginOf_23 rfl (lv_at hl 0 rfl) ?_
  obtain ⟨h10, hf⟩ := mChk hf
  refine mld1 B hw h10 dX9_marginOf_24 ?_
  obtain ⟨y11, e12, hf⟩ := mLet hf
  rw [← e12]
  refine lv_istore (lv' := [(4, .int y11), (3, .int (((12 : Int32) * a1) + (I0 x5 (a1).toNatClampNeg))), (2, .int (I0 x2 ((0 : Int32)).toNatClampNeg)), (0, .ref (g.2.1 a0)), (1, .int a1)]) hx hb dX9_marginOf_25 hl (by decide) rfl (fun ls hl => ?_)
  refine lv_aload_n hx hb dX9_marginOf_27 rfl (lv_at hl 3 rfl) ?_
  refine mgr B hw flX9_31 rfl h1 e9 dX9_marginOf_28 ?_
  refine lv_iload_n hx hb dX9_marginOf_31 rfl (lv_at hl 1 rfl) ?_
  refine lv_iconst (v := (0 : Int32)) hx hb dX9_marginOf_32 (by decide) ?_
  obtain ⟨I13, e14, hf⟩ := mLet hf
  refine mst1 B hw h10 dX9_marginOf_33 (fun H locs hw => ?_)
  rw [← e14] at hw
  refine lv_aload_n hx hb dX9_marginOf_34 rfl (lv_at hl 3 rfl) ?_
  obtain ⟨z15, e16, hf⟩ := mBind hf
  refine mcallV (rest := []) (ci := 9) B hw [] clX9_132 rfl h1 (r_X9_pairs l g K n hJ hO a0 I13 J0 R0 z15 e16) ⟨rfl, rfl, Nat.le_of_ble_eq_true rfl, Nat.le_of_ble_eq_true rfl⟩ rfl hl.1 (Nat.le_of_ble_eq_true rfl) ⟨Nat.zero_le _, Nat.zero_le _⟩ dX9_marginOf_35 (fun H locs hw => ?_)
  refine W.eq (g2 := F0 m 38 ls [.int z15.1]) rfl ?_
  refine lv_istore (lv' := [(5, .int z15.1), (4, .int y11), (3, .int (((12 : Int32) * a1) + (I0 x5 (a1).toNatClampNeg))), (2, .int (I0 x2 ((0 : Int32)).toNatClampNeg)), (0, .ref (g.2.1 a0)), (1, .int a1)]) hx hb dX9_marginOf_38 hl (by decide) rfl (fun ls hl => ?_)
  refine lv_aload_n hx hb dX9_marginOf_40 rfl (lv_at hl 4 rfl) ?_
  refine mgr B hw flX9_31 rfl h1 e9 dX9_marginOf_41 ?_
  refine lv_iload_n hx hb dX9_marginOf_44 rfl (lv_at hl 2 rfl) ?_
  refine lv_iload hx hb dX9_marginOf_45 (lv_at hl 1 rfl) ?_
  obtain ⟨I17, e18, hf⟩ := mLet hf
  refine mst1 B hw h10 dX9_marginOf_47 (fun H locs hw => ?_)
  rw [← e18] at hw
  refine lv_iload_n hx hb dX9_marginOf_48 rfl (lv_at hl 3 rfl) ?_
  refine lv_iload hx hb dX9_marginOf_49 (lv_at hl 0 rfl) ?_
  refine lv_isub hx hb dX9_marginOf_51 ?_
  rw [hQm, ← Option.some.inj hf]
  exact mri hx hb hr hlk hw dX9_marginOf_52
