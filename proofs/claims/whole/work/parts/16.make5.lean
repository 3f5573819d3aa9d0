set_option maxRecDepth 20000 in
theorem qfX2_11 : mFl RX2 11 2 0 RX2 TX2 2 := ⟨rfl, by decide, rfl, mT_at 76 rfl rfl, inX_X2⟩
set_option maxRecDepth 20000 in
theorem quX2_11 : mPu RX2 11 2 0 RX2 TX2 2 tyX2 (tyX2 0) true := ⟨qfX2_11, tyX2_ok, nmX2, rfl, tyX2_ok 0 (by decide)⟩
set_option maxRecDepth 20000 in
theorem vnX2_9 : Cond.classLink RX2 9 RX1 ∈ mT ∧ Cond.instantiable RX1 8 ∈ mT ∧ Cond.initialized RX1 ∈ mT := ⟨mT_at 30 rfl rfl, mT_at 32 rfl rfl, mT_at 3 rfl rfl⟩
set_option maxRecDepth 20000 in
theorem viX2_17 : Cond.methodLink RX2 17 yX1_init ∈ mT ∧ Cond.instanceMethod yX1_init ∈ mT ∧ Cond.initialized yX1_init.cls ∈ mT ∧ Cond.code yX1_init cX1_init 1 none ∈ mT ∧ yX1_init.name = "<init>" ∧ (yX1_init.cls ≠ "java/lang/invoke/MethodHandle" ∧ yX1_init.cls ≠ "java/lang/invoke/VarHandle" ∧ (parseMethodDescriptor yX1_init.desc).map (fun d => d.parameters.length) = some 0) := ⟨mT_at 33 rfl rfl, mT_at 34 rfl rfl, mT_at 3 rfl rfl, mT_at 35 rfl rfl, rfl, by decide, by decide, by decide +kernel⟩
set_option maxRecDepth 20000 in
theorem qfX0_12 : mFl RX0 12 0 0 RX0 TX0 3 := ⟨rfl, by decide, rfl, mT_at 94 rfl rfl, inX_X0⟩
set_option maxRecDepth 20000 in
theorem quX0_12 : mPu RX0 12 0 0 RX0 TX0 3 tyX0 (tyX0 0) true := ⟨qfX0_12, tyX0_ok, nmX0, rfl, tyX0_ok 0 (by decide)⟩
set_option maxRecDepth 20000 in
theorem qfX0_18 : mFl RX0 18 0 1 RX0 TX0 3 := ⟨rfl, by decide, rfl, mT_at 96 rfl rfl, inX_X0⟩
set_option maxRecDepth 20000 in
theorem quX0_18 : mPu RX0 18 0 1 RX0 TX0 3 tyX0 (tyX0 1) true := ⟨qfX0_18, tyX0_ok, nmX0, rfl, tyX0_ok 1 (by decide)⟩
set_option maxRecDepth 20000 in
theorem qfX0_22 : mFl RX0 22 0 2 RX0 TX0 3 := ⟨rfl, by decide, rfl, mT_at 97 rfl rfl, inX_X0⟩
set_option maxRecDepth 20000 in
theorem quX0_22 : mPu RX0 22 0 2 RX0 TX0 3 tyX0 (tyX0 2) true := ⟨qfX0_22, tyX0_ok, nmX0, rfl, tyX0_ok 2 (by decide)⟩
set_option maxRecDepth 20000 in
theorem vnX0_9 : Cond.classLink RX0 9 RX2 ∈ mT ∧ Cond.instantiable RX2 2 ∈ mT ∧ Cond.initialized RX2 ∈ mT := ⟨mT_at 92 rfl rfl, mT_at 25 rfl rfl, mT_at 2 rfl rfl⟩
set_option maxRecDepth 20000 in
theorem viX0_11 : Cond.methodLink RX0 11 yX2_init ∈ mT ∧ Cond.instanceMethod yX2_init ∈ mT ∧ Cond.initialized yX2_init.cls ∈ mT ∧ Cond.code yX2_init cX2_init 2 none ∈ mT ∧ yX2_init.name = "<init>" ∧ (yX2_init.cls ≠ "java/lang/invoke/MethodHandle" ∧ yX2_init.cls ≠ "java/lang/invoke/VarHandle" ∧ (parseMethodDescriptor yX2_init.desc).map (fun d => d.parameters.length) = some 0) := ⟨mT_at 93 rfl rfl, mT_at 27 rfl rfl, mT_at 2 rfl rfl, mT_at 28 rfl rfl, rfl, by decide, by decide, by decide +kernel⟩
def iK2 (a : Nat) (I : mI) : Nat → mI
  | 0 => I
  | j + 1 => iK1 (a + 2 + 5 * j) (iK2 a I j)
def rK2 (a : Nat) (R : mR) : Nat → mR
  | 0 => mup R a 0 (some (a + 1))
  | j + 1 => mup (rK1 (a + 2 + 5 * j) (rK2 a R j)) (a + 1) j (some (a + 2 + 5 * j))
theorem iK1_ne {a i k : Nat} {I : mI} (h : i ≠ a) : iK1 a I i k = I i k := by
  unfold iK1
  rw [mup_ne _ _ (by omega)]
theorem rK1_ne {a i k : Nat} {R : mR} (h : i ≠ a) : rK1 a R i k = R i k := by
  unfold rK1
  rw [mup_ne _ _ (by omega), mup_ne _ _ (by omega), mup_ne _ _ (by omega), mup_ne _ _ (by omega)]
theorem rK2_0 {a : Nat} {R : mR} : ∀ j, rK2 a R j a 0 = some (a + 1)
  | 0 => by simp only [rK2]; rw [mup_eq]
  | j + 1 => by
    simp only [rK2]
    rw [mup_ne _ _ (by omega), rK1_ne (by omega)]
    exact rK2_0 j
theorem fresh.k1 {a n : Nat} {I : mI} {J : mJ} {R : mR} (h : fresh n I J R) (ha : a < n) : fresh n (iK1 a I) J (rK1 a R) := fun i k hi => ⟨by rw [iK1_ne (by omega)]; exact (h i k hi).1, (h i k hi).2.1, by rw [rK1_ne (by omega)]; exact (h i k hi).2.2⟩
set_option maxHeartbeats 4000000 in
set_option maxRecDepth 100000 in
theorem k_X2 (l : Launch) (g : mG) (K : mK) (b a : Nat) (hg : ∀ i, g.2.1 i = b + i) (I : mI) (J : mJ) (R : mR) (hf : fresh (a + 1) I J R) (h0 : K a = (0, 2)) (h1 : K (a + 1) = (5, 12)) (hk : ∀ j, j < 12 → K (a + 2 + 5 * j) = (0, 1) ∧ K (a + 2 + 5 * j + 1) = (1, 8) ∧ K (a + 2 + 5 * j + 2) = (1, 4) ∧ K (a + 2 + 5 * j + 3) = (1, 3) ∧ K (a + 2 + 5 * j + 4) = (1, 3)) : Met l yX2_init (mWs yX2_init cX2_init 2 none) ({ frames := 2, cells := 61, slots := 324, locals := 40 } : Room) (va_Pc [.ref (g.2.1 a)] (cB g K b (a + 1) I J R)) (cQ g K b (a + 62) (iK2 a I 12) J (rK2 a R 12)) 61 324 (up b) := by
  refine cStart RX2 hg hf (by decide) rfl rfl (Nat.le_of_ble_eq_true rfl) ?_
  intro p e s m below meth c ls Qm hQm B hr hlk hmn hs hw hl
  have hx := B.1.1
  have hb := B.1.2.1
  have Lp : ∀ (d j : Nat) (H : Heap) (locs : List Loc) (ls : Array Slot), j + d = 12 → cHp g K b (a + 2 + 5 * j) s (iK2 a I j) J (rK2 a R j) H locs → lv_has ls 2 [(1, .int (nI j)), (0, .ref (g.2.1 a))] → W p l e ({ frames := 2, cells := 61, slots := 324, locals := 40 } : Room) s m [Value.ref (g.2.1 a)].toArray below meth c H locs (1 + 5 * j) (12 + 26 * j) Qm (F0 m 15 ls []) := by
    intro d
    induction d with
    | zero =>
      intro j H locs ls e1 hw hl
      obtain rfl : j = 12 := by omega
      refine lv_iload_n hx hb dX2_init_15 rfl (lv_at hl 0 rfl) ?_
      refine lv_bipush (v := (12 : Int32)) hx hb dX2_init_16 (by decide) ?_
      refine lv_icmp_ge (tgt := 40) hx hb dX2_init_18 (by decide) (fun _ => ?_) (fun q => absurd q (by decide))
      rw [hQm]
      exact c_ret hx hb hr hlk hw dX2_init_40
    | succ d ih =>
      intro j H locs ls e1 hw hl
      have hj : j < 12 := by omega
      obtain ⟨k0, k1, k2, k3, k4⟩ := hk j hj
      refine lv_iload_n hx hb dX2_init_15 rfl (lv_at hl 0 rfl) ?_
      refine lv_bipush (v := (12 : Int32)) hx hb dX2_init_16 (by decide) ?_
      refine lv_icmp_ge (tgt := 40) hx hb dX2_init_18 (by decide) (fun q => absurd q (ge12 hj)) (fun _ => ?_)
      refine lv_aload_n hx hb dX2_init_21 rfl (lv_at hl 1 rfl) ?_
      refine c_gr B hw qfX2_11 rfl (by omega) h0 (rK2_0 j) dX2_init_22 ?_
      refine lv_iload_n hx hb dX2_init_25 rfl (lv_at hl 0 rfl) ?_
      refine c_new (ci := 1) B hw k0 rfl inX_X1 tyX1_ok rfl dfX1 vnX2_9 (by show 1 + 5 * j + 1 ≤ 61; omega) (by show 12 + 26 * j + 8 ≤ 324; omega) dX2_init_26 (fun H hw => ?_)
      refine lv_dup hx hb dX2_init_29 rfl ?_
      have hw : cHp g K b (a + 2 + 5 * j + 1) s (iK2 a I j) J (rK2 a R j) H locs := hw
      refine c_call (n' := a + 2 + 5 * j + 5) B hw viX2_17 (k_X1 l g K b (a + 2 + 5 * j) hg (iK2 a I j) J (rK2 a R j) hw.2.2.2 k0 k1 k2 k3 k4) ⟨rfl, rfl, Nat.le_of_ble_eq_true rfl, Nat.le_of_ble_eq_true rfl⟩ (by omega) (by omega) ((hw.2.2.2.k1 (by omega)).le (by omega)) hl.1 (Nat.le_of_ble_eq_true rfl) ⟨by show 1 + 5 * j + 1 + 4 ≤ 61; omega, by show 12 + 26 * j + 8 + 18 ≤ 324; omega⟩ dX2_init_30 (fun H locs hw => ?_)
      refine c_stq B hw (by omega) (by omega) (by omega) (mx j h1 hj (by decide)) k0 dX2_init_33 (fun H locs hw => ?_)
      rw [nI_c (show j < 2 ^ 31 by omega)] at hw
      refine lv_iinc (k := 0) (v := nI (j + 1)) (lv' := [(1, .int (nI (j + 1))), (0, .ref (g.2.1 a))]) hx hb dX2_init_34 hl rfl (nI_1 j) (by decide) rfl (fun ls hl => ?_)
      refine lv_goto (tgt := 15) hx hb dX2_init_37 (by decide) ?_
      have hw : cHp g K b (a + 2 + 5 * (j + 1)) s (iK2 a I (j + 1)) J (rK2 a R (j + 1)) H locs := by
        rw [show a + 2 + 5 * (j + 1) = a + 2 + 5 * j + 5 by omega]
        exact hw
      have := ih (j + 1) H locs ls (by omega) hw hl
      rw [show 1 + 5 * (j + 1) = 1 + 5 * j + 1 + 4 by omega, show 12 + 26 * (j + 1) = 12 + 26 * j + 8 + 18 by omega] at this
      exact this
  refine lv_aload_n hx hb dX2_init_0 rfl (lv_at hl 0 rfl) ?_
  refine c_obj B hl.1 (mT_at 29 rfl rfl) (Nat.le_of_ble_eq_true rfl) (Nat.le_of_ble_eq_true rfl) dX2_init_1 ?_
  refine lv_aload_n hx hb dX2_init_4 rfl (lv_at hl 0 rfl) ?_
  refine lv_bipush (v := (12 : Int32)) hx hb dX2_init_5 (by decide) ?_
  refine c_newq (N := 12) B hw h1 vnX2_9.1 rfl (by decide) (by decide) (Nat.le_of_ble_eq_true rfl) (Nat.le_of_ble_eq_true rfl) dX2_init_7 (fun H hw => ?_)
  refine c_prF (x := a + 1) B hw (by omega) quX2_11 rfl hmn rfl (by omega) h0 rfl rfl dX2_init_10 (fun H locs hw => ?_)
  refine lv_iconst (v := (0 : Int32)) hx hb dX2_init_13 (by decide) ?_
  refine lv_istore_n (lv' := [(1, .int (nI 0)), (0, .ref (g.2.1 a))]) hx hb dX2_init_14 rfl hl (by decide) rfl (fun ls hl => ?_)
  exact Lp 12 0 H locs ls rfl hw hl
def iK0 (a : Nat) (I : mI) (j : Nat) : mI := rowU (rowU (iK2 (a + 1) I 12) (a + 63) 0 j nI) (a + 64) 0 j (fun _ => -1)
def rK0 (a : Nat) (R : mR) : mR := mup (mup (mup (rK2 (a + 1) R 12) a 0 (some (a + 1))) a 1 (some (a + 63))) a 2 (some (a + 64))
theorem iK2_ne {a i k : Nat} {I : mI} : ∀ {j : Nat}, (i < a + 2 ∨ a + 2 + 5 * j ≤ i) → iK2 a I j i k = I i k
  | 0, _ => rfl
  | j + 1, h => by
    simp only [iK2]
    rw [iK1_ne (by omega)]
    exact iK2_ne (by omega)
theorem rK2_ne {a i k : Nat} {R : mR} : ∀ {j : Nat}, (i < a ∨ a + 2 + 5 * j ≤ i) → rK2 a R j i k = R i k
  | 0, h => by simp only [rK2]; rw [mup_ne _ _ (by omega)]
  | j + 1, h => by
    simp only [rK2]
    rw [mup_ne _ _ (by omega), rK1_ne (by omega)]
    exact rK2_ne (by omega)
theorem fresh.k2 {a : Nat} {I : mI} {J : mJ} {R : mR} (h : fresh (a + 1) I J R) : fresh (a + 62) (iK2 a I 12) J (rK2 a R 12) := fun i k hi => ⟨by rw [iK2_ne (by omega)]; exact (h i k (by omega)).1, (h i k (by omega)).2.1, by rw [rK2_ne (by omega)]; exact (h i k (by omega)).2.2⟩
theorem iK0_s {a : Nat} {I : mI} {j : Nat} : mup (mup (iK0 a I j) (a + 63) j (nI j)) (a + 64) j (-1) = iK0 a I (j + 1) := by
  funext i k
  unfold iK0
  by_cases e : i = a + 64 ∧ k = j
  · rw [e.1, e.2, mup_eq, rowU_in (by omega) (by omega)]
  · rw [mup_ne _ _ e]
    by_cases e2 : i = a + 63 ∧ k = j
    · rw [e2.1, e2.2, mup_eq, rowU_ne (by omega), rowU_in (by omega) (by omega)]
    · rw [mup_ne _ _ e2]
      by_cases q : i = a + 64
      · rw [q]
        by_cases q2 : k < j
        · rw [rowU_in (by omega) q2, rowU_in (by omega) (by omega)]
        · rw [rowU_out (by omega), rowU_ne (by omega), rowU_out (by omega), rowU_ne (by omega)]
      · rw [rowU_ne q, rowU_ne q]
        by_cases e4 : i = a + 63 ∧ k < j
        · rw [e4.1, rowU_in (by omega) e4.2, rowU_in (by omega) (by omega)]
        · rw [rowU_out (by omega), rowU_out (by omega)]
theorem iK0_0 {a : Nat} {I : mI} : iK0 a I 0 = iK2 (a + 1) I 12 := by
  unfold iK0
  rw [rowU_0, rowU_0]
set_option maxHeartbeats 4000000 in
set_option maxRecDepth 100000 in
theorem k_X0 (l : Launch) (g : mG) (K : mK) (b a : Nat) (hg : ∀ i, g.2.1 i = b + i) (I : mI) (J : mJ) (R : mR) (hf : fresh (a + 1) I J R) (h0 : K a = (0, 0)) (h1 : K (a + 1) = (0, 2)) (h2 : K (a + 1 + 1) = (5, 12)) (hk : ∀ j, j < 12 → K (a + 1 + 2 + 5 * j) = (0, 1) ∧ K (a + 1 + 2 + 5 * j + 1) = (1, 8) ∧ K (a + 1 + 2 + 5 * j + 2) = (1, 4) ∧ K (a + 1 + 2 + 5 * j + 3) = (1, 3) ∧ K (a + 1 + 2 + 5 * j + 4) = (1, 3)) (h63 : K (a + 63) = (1, 12)) (h64 : K (a + 64) = (1, 12)) : Met l yX0_init (mWs yX0_init cX0_init 2 none) ({ frames := 3, cells := 64, slots := 350, locals := 61 } : Room) (va_Pc [.ref (g.2.1 a)] (cB g K b (a + 1) I J R)) (cQ g K b (a + 65) (iK0 a I 12) J (rK0 a R)) 64 350 (up b) := by
  refine cStart RX0 hg hf (by decide) rfl rfl (Nat.le_of_ble_eq_true rfl) ?_
  intro p e s m below meth c ls Qm hQm B hr hlk hmn hs hw hl
  have hx := B.1.1
  have hb := B.1.2.1
  have r1 : rK0 a R a 1 = some (a + 63) := by unfold rK0; rw [mup_ne _ _ (by omega), mup_eq]
  have r2 : rK0 a R a 2 = some (a + 64) := by unfold rK0; rw [mup_eq]
  have Lp : ∀ (d j : Nat) (H : Heap) (locs : List Loc) (ls : Array Slot), j + d = 12 → cHp g K b (a + 65) s (iK0 a I j) J (rK0 a R) H locs → lv_has ls 2 [(1, .int (nI j)), (0, .ref (g.2.1 a))] → W p l e ({ frames := 3, cells := 64, slots := 350, locals := 61 } : Room) s m [Value.ref (g.2.1 a)].toArray below meth c H locs 64 350 Qm (F0 m 33 ls []) := by
    intro d
    induction d with
    | zero =>
      intro j H locs ls e1 hw hl
      obtain rfl : j = 12 := by omega
      refine lv_iload_n hx hb dX0_init_33 rfl (lv_at hl 0 rfl) ?_
      refine lv_bipush (v := (12 : Int32)) hx hb dX0_init_34 (by decide) ?_
      refine lv_icmp_ge (tgt := 59) hx hb dX0_init_36 (by decide) (fun _ => ?_) (fun q => absurd q (by decide))
      rw [hQm]
      exact c_ret hx hb hr hlk hw dX0_init_59
    | succ d ih =>
      intro j H locs ls e1 hw hl
      have hj : j < 12 := by omega
      refine lv_iload_n hx hb dX0_init_33 rfl (lv_at hl 0 rfl) ?_
      refine lv_bipush (v := (12 : Int32)) hx hb dX0_init_34 (by decide) ?_
      refine lv_icmp_ge (tgt := 59) hx hb dX0_init_36 (by decide) (fun q => absurd q (ge12 hj)) (fun _ => ?_)
      refine lv_aload_n hx hb dX0_init_39 rfl (lv_at hl 1 rfl) ?_
      refine c_gr B hw qfX0_18 rfl (by omega) h0 r1 dX0_init_40 ?_
      refine lv_iload_n hx hb dX0_init_43 rfl (lv_at hl 0 rfl) ?_
      refine lv_iload_n hx hb dX0_init_44 rfl (lv_at hl 0 rfl) ?_
      refine c_st1 B hw (by omega) (by omega) (mx j h63 hj (by decide)) dX0_init_45 (fun H locs hw => ?_)
      rw [nI_c (show j < 2 ^ 31 by omega)] at hw
      refine lv_aload_n hx hb dX0_init_46 rfl (lv_at hl 1 rfl) ?_
      refine c_gr B hw qfX0_22 rfl (by omega) h0 r2 dX0_init_47 ?_
      refine lv_iload_n hx hb dX0_init_50 rfl (lv_at hl 0 rfl) ?_
      refine lv_iconst (v := (-1 : Int32)) hx hb dX0_init_51 (by decide) ?_
      refine c_st1 B hw (by omega) (by omega) (mx j h64 hj (by decide)) dX0_init_52 (fun H locs hw => ?_)
      rw [nI_c (show j < 2 ^ 31 by omega), iK0_s] at hw
      refine lv_iinc (k := 0) (v := nI (j + 1)) (lv' := [(1, .int (nI (j + 1))), (0, .ref (g.2.1 a))]) hx hb dX0_init_53 hl rfl (nI_1 j) (by decide) rfl (fun ls hl => ?_)
      refine lv_goto (tgt := 33) hx hb dX0_init_56 (by decide) ?_
      exact ih (j + 1) H locs ls (by omega) hw hl
  refine lv_aload_n hx hb dX0_init_0 rfl (lv_at hl 0 rfl) ?_
  refine c_obj B hl.1 (mT_at 91 rfl rfl) (Nat.le_of_ble_eq_true rfl) (Nat.le_of_ble_eq_true rfl) dX0_init_1 ?_
  refine lv_aload_n hx hb dX0_init_4 rfl (lv_at hl 0 rfl) ?_
  refine c_new (ci := 2) B hw h1 rfl inX_X2 tyX2_ok rfl dfX2 vnX0_9 (Nat.le_of_ble_eq_true rfl) (Nat.le_of_ble_eq_true rfl) dX0_init_5 (fun H hw => ?_)
  refine lv_dup hx hb dX0_init_8 rfl ?_
  refine c_call (n' := a + 1 + 62) B hw viX0_11 (k_X2 l g K b (a + 1) hg I J R hw.2.2.2 h1 h2 hk) ⟨rfl, rfl, Nat.le_of_ble_eq_true rfl, Nat.le_of_ble_eq_true rfl⟩ (by omega) (by omega) hw.2.2.2.k2 hl.1 (Nat.le_of_ble_eq_true rfl) ⟨Nat.le_of_ble_eq_true rfl, Nat.le_of_ble_eq_true rfl⟩ dX0_init_9 (fun H locs hw => ?_)
  refine c_prF (x := a + 1) B hw (by omega) quX0_12 rfl hmn rfl (by omega) h0 rfl rfl dX0_init_12 (fun H locs hw => ?_)
  refine lv_aload_n hx hb dX0_init_15 rfl (lv_at hl 0 rfl) ?_
  refine lv_bipush (v := (12 : Int32)) hx hb dX0_init_16 (by decide) ?_
  refine c_newI B hw (N := 12) h63 rfl (by decide) (by decide) (Nat.le_of_ble_eq_true rfl) (Nat.le_of_ble_eq_true rfl) dX0_init_18 (fun H hw => ?_)
  refine c_prF (x := a + 63) B hw (by omega) quX0_18 rfl hmn rfl (by omega) h0 rfl rfl dX0_init_20 (fun H locs hw => ?_)
  refine lv_aload_n hx hb dX0_init_23 rfl (lv_at hl 0 rfl) ?_
  refine lv_bipush (v := (12 : Int32)) hx hb dX0_init_24 (by decide) ?_
  refine c_newI B hw (N := 12) h64 rfl (by decide) (by decide) (Nat.le_of_ble_eq_true rfl) (Nat.le_of_ble_eq_true rfl) dX0_init_26 (fun H hw => ?_)
  refine c_prF (x := a + 64) B hw (by omega) quX0_22 rfl hmn rfl (by omega) h0 rfl rfl dX0_init_28 (fun H locs hw => ?_)
  refine lv_iconst (v := (0 : Int32)) hx hb dX0_init_31 (by decide) ?_
  refine lv_istore_n (lv' := [(1, .int (nI 0)), (0, .ref (g.2.1 a))]) hx hb dX0_init_32 rfl hl (by decide) rfl (fun ls hl => ?_)
  have hw : cHp g K b (a + 65) s (iK0 a I 0) J (rK0 a R) H locs := by rw [iK0_0]; exact hw
  exact Lp 12 0 H locs ls rfl hw hl
