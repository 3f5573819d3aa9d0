theorem dfX0 : ∀ j, j < 3 → defaultValue (tyX0 j) = if mIR 0 j = true then .null else .int 0 := by
  intro j hj
  match j, hj with
  | 0, _ => rfl
  | 1, _ => rfl
  | 2, _ => rfl
  | k + 3, h => exact absurd h (by omega)
theorem dfX1 : ∀ j, j < 8 → defaultValue (tyX1 j) = if mIR 1 j = true then .null else .int 0 := by
  intro j hj
  match j, hj with
  | 0, _ => rfl
  | 1, _ => rfl
  | 2, _ => rfl
  | 3, _ => rfl
  | 4, _ => rfl
  | 5, _ => rfl
  | 6, _ => rfl
  | 7, _ => rfl
  | k + 8, h => exact absurd h (by omega)
theorem dfX2 : ∀ j, j < 2 → defaultValue (tyX2 j) = if mIR 2 j = true then .null else .int 0 := by
  intro j hj
  match j, hj with
  | 0, _ => rfl
  | 1, _ => rfl
  | k + 2, h => exact absurd h (by omega)
theorem dfX3 : ∀ j, j < 4 → defaultValue (tyX3 j) = if mIR 3 j = true then .null else .int 0 := by
  intro j hj
  match j, hj with
  | 0, _ => rfl
  | 1, _ => rfl
  | 2, _ => rfl
  | 3, _ => rfl
  | k + 4, h => exact absurd h (by omega)
theorem dfX4 : ∀ j, j < 10 → defaultValue (tyX4 j) = if mIR 4 j = true then .null else .int 0 := by
  intro j hj
  match j, hj with
  | 0, _ => rfl
  | 1, _ => rfl
  | 2, _ => rfl
  | 3, _ => rfl
  | 4, _ => rfl
  | 5, _ => rfl
  | 6, _ => rfl
  | 7, _ => rfl
  | 8, _ => rfl
  | 9, _ => rfl
  | k + 10, h => exact absurd h (by omega)
theorem dfX5 : ∀ j, j < 5 → defaultValue (tyX5 j) = if mIR 5 j = true then .null else .int 0 := by
  intro j hj
  match j, hj with
  | 0, _ => rfl
  | 1, _ => rfl
  | 2, _ => rfl
  | 3, _ => rfl
  | 4, _ => rfl
  | k + 5, h => exact absurd h (by omega)
theorem dfX6 : ∀ j, j < 3 → defaultValue (tyX6 j) = if mIR 6 j = true then .null else .int 0 := by
  intro j hj
  match j, hj with
  | 0, _ => rfl
  | 1, _ => rfl
  | 2, _ => rfl
  | k + 3, h => exact absurd h (by omega)
theorem dfX7 : ∀ j, j < 2 → defaultValue (tyX7 j) = if mIR 7 j = true then .null else .int 0 := by
  intro j hj
  match j, hj with
  | 0, _ => rfl
  | 1, _ => rfl
  | k + 2, h => exact absurd h (by omega)
theorem dfX8 : ∀ j, j < 10 → defaultValue (tyX8 j) = if mIR 8 j = true then .null else .int 0 := by
  intro j hj
  match j, hj with
  | 0, _ => rfl
  | 1, _ => rfl
  | 2, _ => rfl
  | 3, _ => rfl
  | 4, _ => rfl
  | 5, _ => rfl
  | 6, _ => rfl
  | 7, _ => rfl
  | 8, _ => rfl
  | 9, _ => rfl
  | k + 10, h => exact absurd h (by omega)
theorem dfX9 : ∀ j, j < 23 → defaultValue (tyX9 j) = if mIR 9 j = true then .null else .int 0 := by
  intro j hj
  match j, hj with
  | 0, _ => rfl
  | 1, _ => rfl
  | 2, _ => rfl
  | 3, _ => rfl
  | 4, _ => rfl
  | 5, _ => rfl
  | 6, _ => rfl
  | 7, _ => rfl
  | 8, _ => rfl
  | 9, _ => rfl
  | 10, _ => rfl
  | 11, _ => rfl
  | 12, _ => rfl
  | 13, _ => rfl
  | 14, _ => rfl
  | 15, _ => rfl
  | 16, _ => rfl
  | 17, _ => rfl
  | 18, _ => rfl
  | 19, _ => rfl
  | 20, _ => rfl
  | 21, _ => rfl
  | 22, _ => rfl
  | k + 23, h => exact absurd h (by omega)
theorem mr_inI (c : ClassId) (M : Nat) : Jvm.Free.Multi.innerC c M (defaultValue .int) = vp_cell c (M, .inl (fun _ => 0)) := by
  show ({ cls := c, slots := Array.replicate M (.int 0), vm := .none } : Cell) = _
  rw [arrV_new, vp_cell_i]
theorem mr_inJ (c : ClassId) (M : Nat) : Jvm.Free.Multi.innerC c M (defaultValue .long) = vp_cell c (M, .inr (.inl (fun _ => 0))) := by
  show ({ cls := c, slots := Array.replicate M (.long 0), vm := .none } : Cell) = _
  rw [arrV_new, vp_cell_l]
set_option maxRecDepth 20000 in
theorem qfX1_9 : mFl RX1 9 1 2 RX1 TX1 8 := ⟨rfl, by decide, rfl, mT_at 41 rfl rfl, inX_X1⟩
set_option maxRecDepth 20000 in
theorem quX1_9 : mPu RX1 9 1 2 RX1 TX1 8 tyX1 .int false := ⟨qfX1_9, tyX1_ok, nmX1, rfl, tyX1_ok 2 (by decide)⟩
set_option maxRecDepth 20000 in
theorem qfX1_15 : mFl RX1 15 1 4 RX1 TX1 8 := ⟨rfl, by decide, rfl, mT_at 46 rfl rfl, inX_X1⟩
set_option maxRecDepth 20000 in
theorem quX1_15 : mPu RX1 15 1 4 RX1 TX1 8 tyX1 (tyX1 4) true := ⟨qfX1_15, tyX1_ok, nmX1, rfl, tyX1_ok 4 (by decide)⟩
set_option maxRecDepth 20000 in
theorem qfX1_19 : mFl RX1 19 1 5 RX1 TX1 8 := ⟨rfl, by decide, rfl, mT_at 49 rfl rfl, inX_X1⟩
set_option maxRecDepth 20000 in
theorem quX1_19 : mPu RX1 19 1 5 RX1 TX1 8 tyX1 (tyX1 5) true := ⟨qfX1_19, tyX1_ok, nmX1, rfl, tyX1_ok 5 (by decide)⟩
set_option maxRecDepth 20000 in
theorem qfX1_22 : mFl RX1 22 1 6 RX1 TX1 8 := ⟨rfl, by decide, rfl, mT_at 52 rfl rfl, inX_X1⟩
set_option maxRecDepth 20000 in
theorem quX1_22 : mPu RX1 22 1 6 RX1 TX1 8 tyX1 (tyX1 6) true := ⟨qfX1_22, tyX1_ok, nmX1, rfl, tyX1_ok 6 (by decide)⟩
set_option maxRecDepth 20000 in
theorem qfX1_25 : mFl RX1 25 1 7 RX1 TX1 8 := ⟨rfl, by decide, rfl, mT_at 55 rfl rfl, inX_X1⟩
set_option maxRecDepth 20000 in
theorem quX1_25 : mPu RX1 25 1 7 RX1 TX1 8 tyX1 (tyX1 7) true := ⟨qfX1_25, tyX1_ok, nmX1, rfl, tyX1_ok 7 (by decide)⟩
def iK1 (a : Nat) (I : mI) : mI := (mup I a 2 (120))
def rK1 (a : Nat) (R : mR) : mR := (mup (mup (mup (mup R a 4 (some (a + 1))) a 5 (some (a + 2))) a 6 (some (a + 3))) a 7 (some (a + 4)))
set_option maxHeartbeats 4000000 in
set_option maxRecDepth 100000 in
theorem k_X1 (l : Launch) (g : mG) (K : mK) (b a : Nat) (hg : ∀ i, g.2.1 i = b + i) (I : mI) (J : mJ) (R : mR) (hf : fresh (a + 1) I J R) (h0 : K a = (0, 1)) (h1 : K (a + 1) = (1, 8)) (h2 : K (a + 2) = (1, 4)) (h3 : K (a + 3) = (1, 3)) (h4 : K (a + 4) = (1, 3)) : Met l yX1_init (mWs yX1_init cX1_init 1 none) ({ frames := 1, cells := 4, slots := 18, locals := 20 }) (va_Pc [.ref (g.2.1 a)] (cB g K b (a + 1) I J R)) (cQ g K b (a + 5) (iK1 a I) J (rK1 a R)) 4 18 (up b) := by
  refine cStart RX1 hg hf (by decide) rfl rfl (Nat.le_of_ble_eq_true rfl) ?_
  intro p e s m below meth c ls Qm hQm B hr hlk hmn hs hw hl
  have hx := B.1.1
  have hb := B.1.2.1
  refine lv_aload_n hx hb dX1_init_0 rfl (lv_at hl 0 rfl) ?_
  refine c_obj B hl.1 (mT_at 36 rfl rfl) (Nat.le_of_ble_eq_true rfl) (Nat.le_of_ble_eq_true rfl) dX1_init_1 ?_
  refine lv_aload_n hx hb dX1_init_4 rfl (lv_at hl 0 rfl) ?_
  refine lv_bipush (v := (120 : Int32)) hx hb dX1_init_5 (by decide) ?_
  refine c_pi (x := (120 : Int32)) B hw (by omega) quX1_9 rfl (by omega) h0 dX1_init_7 (fun H locs hw => ?_)
  refine lv_aload_n hx hb dX1_init_10 rfl (lv_at hl 0 rfl) ?_
  refine lv_bipush (v := (8 : Int32)) hx hb dX1_init_11 (by decide) ?_
  refine c_newI B hw (N := 8) h1 rfl (by decide) (by decide) (Nat.le_of_ble_eq_true rfl) (Nat.le_of_ble_eq_true rfl) dX1_init_13 (fun H hw => ?_)
  refine c_prF (x := (a + 1)) B hw (by omega) quX1_15 rfl hmn rfl (by omega) h0 rfl rfl dX1_init_15 (fun H locs hw => ?_)
  refine lv_aload_n hx hb dX1_init_18 rfl (lv_at hl 0 rfl) ?_
  refine lv_iconst (v := (4 : Int32)) hx hb dX1_init_19 (by decide) ?_
  refine c_newI B hw (N := 4) h2 rfl (by decide) (by decide) (Nat.le_of_ble_eq_true rfl) (Nat.le_of_ble_eq_true rfl) dX1_init_20 (fun H hw => ?_)
  refine c_prF (x := (a + 2)) B hw (by omega) quX1_19 rfl hmn rfl (by omega) h0 rfl rfl dX1_init_22 (fun H locs hw => ?_)
  refine lv_aload_n hx hb dX1_init_25 rfl (lv_at hl 0 rfl) ?_
  refine lv_iconst (v := (3 : Int32)) hx hb dX1_init_26 (by decide) ?_
  refine c_newI B hw (N := 3) h3 rfl (by decide) (by decide) (Nat.le_of_ble_eq_true rfl) (Nat.le_of_ble_eq_true rfl) dX1_init_27 (fun H hw => ?_)
  refine c_prF (x := (a + 3)) B hw (by omega) quX1_22 rfl hmn rfl (by omega) h0 rfl rfl dX1_init_29 (fun H locs hw => ?_)
  refine lv_aload_n hx hb dX1_init_32 rfl (lv_at hl 0 rfl) ?_
  refine lv_iconst (v := (3 : Int32)) hx hb dX1_init_33 (by decide) ?_
  refine c_newI B hw (N := 3) h4 rfl (by decide) (by decide) (Nat.le_of_ble_eq_true rfl) (Nat.le_of_ble_eq_true rfl) dX1_init_34 (fun H hw => ?_)
  refine c_prF (x := (a + 4)) B hw (by omega) quX1_25 rfl hmn rfl (by omega) h0 rfl rfl dX1_init_36 (fun H locs hw => ?_)
  rw [hQm]
  exact c_ret hx hb hr hlk hw dX1_init_39
set_option maxRecDepth 20000 in
theorem qfX6_9 : mFl RX6 9 6 0 RX6 TX6 3 := ⟨rfl, by decide, rfl, mT_at 112 rfl rfl, inX_X6⟩
set_option maxRecDepth 20000 in
theorem quX6_9 : mPu RX6 9 6 0 RX6 TX6 3 tyX6 (tyX6 0) true := ⟨qfX6_9, tyX6_ok, nmX6, rfl, tyX6_ok 0 (by decide)⟩
set_option maxRecDepth 20000 in
theorem qfX6_15 : mFl RX6 15 6 1 RX6 TX6 3 := ⟨rfl, by decide, rfl, mT_at 113 rfl rfl, inX_X6⟩
set_option maxRecDepth 20000 in
theorem quX6_15 : mPu RX6 15 6 1 RX6 TX6 3 tyX6 (tyX6 1) true := ⟨qfX6_15, tyX6_ok, nmX6, rfl, tyX6_ok 1 (by decide)⟩
def iK6 (a : Nat) (I : mI) : mI := I
def rK6 (a : Nat) (R : mR) : mR := (mup (mup R a 0 (some (a + 1))) a 1 (some (a + 2)))
set_option maxHeartbeats 4000000 in
set_option maxRecDepth 100000 in
theorem k_X6 (l : Launch) (g : mG) (K : mK) (b a : Nat) (hg : ∀ i, g.2.1 i = b + i) (I : mI) (J : mJ) (R : mR) (hf : fresh (a + 1) I J R) (h0 : K a = (0, 6)) (h1 : K (a + 1) = (1, 60)) (h2 : K (a + 2) = (1, 60)) : Met l yX6_init (mWs yX6_init cX6_init 1 none) ({ frames := 1, cells := 2, slots := 120, locals := 20 }) (va_Pc [.ref (g.2.1 a)] (cB g K b (a + 1) I J R)) (cQ g K b (a + 3) (iK6 a I) J (rK6 a R)) 2 120 (up b) := by
  refine cStart RX6 hg hf (by decide) rfl rfl (Nat.le_of_ble_eq_true rfl) ?_
  intro p e s m below meth c ls Qm hQm B hr hlk hmn hs hw hl
  have hx := B.1.1
  have hb := B.1.2.1
  refine lv_aload_n hx hb dX6_init_0 rfl (lv_at hl 0 rfl) ?_
  refine c_obj B hl.1 (mT_at 111 rfl rfl) (Nat.le_of_ble_eq_true rfl) (Nat.le_of_ble_eq_true rfl) dX6_init_1 ?_
  refine lv_aload_n hx hb dX6_init_4 rfl (lv_at hl 0 rfl) ?_
  refine lv_bipush (v := (60 : Int32)) hx hb dX6_init_5 (by decide) ?_
  refine c_newI B hw (N := 60) h1 rfl (by decide) (by decide) (Nat.le_of_ble_eq_true rfl) (Nat.le_of_ble_eq_true rfl) dX6_init_7 (fun H hw => ?_)
  refine c_prF (x := (a + 1)) B hw (by omega) quX6_9 rfl hmn rfl (by omega) h0 rfl rfl dX6_init_9 (fun H locs hw => ?_)
  refine lv_aload_n hx hb dX6_init_12 rfl (lv_at hl 0 rfl) ?_
  refine lv_bipush (v := (60 : Int32)) hx hb dX6_init_13 (by decide) ?_
  refine c_newI B hw (N := 60) h2 rfl (by decide) (by decide) (Nat.le_of_ble_eq_true rfl) (Nat.le_of_ble_eq_true rfl) dX6_init_15 (fun H hw => ?_)
  refine c_prF (x := (a + 2)) B hw (by omega) quX6_15 rfl hmn rfl (by omega) h0 rfl rfl dX6_init_17 (fun H locs hw => ?_)
  rw [hQm]
  exact c_ret hx hb hr hlk hw dX6_init_20
set_option maxRecDepth 20000 in
theorem qfX7_9 : mFl RX7 9 7 0 RX7 TX7 2 := ⟨rfl, by decide, rfl, mT_at 175 rfl rfl, inX_X7⟩
set_option maxRecDepth 20000 in
theorem quX7_9 : mPu RX7 9 7 0 RX7 TX7 2 tyX7 (tyX7 0) true := ⟨qfX7_9, tyX7_ok, nmX7, rfl, tyX7_ok 0 (by decide)⟩
def iK7 (a : Nat) (I : mI) : mI := I
def rK7 (a : Nat) (R : mR) : mR := (mup R a 0 (some (a + 1)))
set_option maxHeartbeats 4000000 in
set_option maxRecDepth 100000 in
theorem k_X7 (l : Launch) (g : mG) (K : mK) (b a : Nat) (hg : ∀ i, g.2.1 i = b + i) (I : mI) (J : mJ) (R : mR) (hf : fresh (a + 1) I J R) (h0 : K a = (0, 7)) (h1 : K (a + 1) = (2, 500)) : Met l yX7_init (mWs yX7_init cX7_init 1 none) ({ frames := 1, cells := 1, slots := 500, locals := 20 }) (va_Pc [.ref (g.2.1 a)] (cB g K b (a + 1) I J R)) (cQ g K b (a + 2) (iK7 a I) J (rK7 a R)) 1 500 (up b) := by
  refine cStart RX7 hg hf (by decide) rfl rfl (Nat.le_of_ble_eq_true rfl) ?_
  intro p e s m below meth c ls Qm hQm B hr hlk hmn hs hw hl
  have hx := B.1.1
  have hb := B.1.2.1
  refine lv_aload_n hx hb dX7_init_0 rfl (lv_at hl 0 rfl) ?_
  refine c_obj B hl.1 (mT_at 174 rfl rfl) (Nat.le_of_ble_eq_true rfl) (Nat.le_of_ble_eq_true rfl) dX7_init_1 ?_
  refine lv_aload_n hx hb dX7_init_4 rfl (lv_at hl 0 rfl) ?_
  refine lv_sipush (v := (500 : Int32)) hx hb dX7_init_5 (by decide) ?_
  refine c_newB B hw (N := 500) h1 rfl (by decide) (by decide) (Nat.le_of_ble_eq_true rfl) (Nat.le_of_ble_eq_true rfl) dX7_init_8 (fun H hw => ?_)
  refine c_prF (x := (a + 1)) B hw (by omega) quX7_9 rfl hmn rfl (by omega) h0 rfl rfl dX7_init_10 (fun H locs hw => ?_)
  rw [hQm]
  exact c_ret hx hb hr hlk hw dX7_init_13
set_option maxRecDepth 20000 in
theorem qfX5_9 : mFl RX5 9 5 0 RX5 TX5 5 := ⟨rfl, by decide, rfl, mT_at 191 rfl rfl, inX_X5⟩
set_option maxRecDepth 20000 in
theorem quX5_9 : mPu RX5 9 5 0 RX5 TX5 5 tyX5 (tyX5 0) false := ⟨qfX5_9, tyX5_ok, nmX5, rfl, tyX5_ok 0 (by decide)⟩
set_option maxRecDepth 20000 in
theorem qfX5_15 : mFl RX5 15 5 4 RX5 TX5 5 := ⟨rfl, by decide, rfl, mT_at 195 rfl rfl, inX_X5⟩
set_option maxRecDepth 20000 in
theorem quX5_15 : mPu RX5 15 5 4 RX5 TX5 5 tyX5 .int false := ⟨qfX5_15, tyX5_ok, nmX5, rfl, tyX5_ok 4 (by decide)⟩
def iK5 (a : Nat) (I : mI) : mI := (mup I a 4 (-1))
def rK5 (a : Nat) (R : mR) : mR := (mup R a 0 (some (a + 1)))
set_option maxHeartbeats 4000000 in
set_option maxRecDepth 100000 in
theorem k_X5 (l : Launch) (g : mG) (K : mK) (b a : Nat) (hg : ∀ i, g.2.1 i = b + i) (I : mI) (J : mJ) (R : mR) (hf : fresh (a + 1) I J R) (h0 : K a = (0, 5)) (h1 : K (a + 1) = (2, 0)) : Met l yX5_init (mWs yX5_init cX5_init 1 none) ({ frames := 1, cells := 1, slots := 0, locals := 20 }) (va_Pc [.ref (g.2.1 a)] (cB g K b (a + 1) I J R)) (cQ g K b (a + 2) (iK5 a I) J (rK5 a R)) 1 0 (up b) := by
  refine cStart RX5 hg hf (by decide) rfl rfl (Nat.le_of_ble_eq_true rfl) ?_
  intro p e s m below meth c ls Qm hQm B hr hlk hmn hs hw hl
  have hx := B.1.1
  have hb := B.1.2.1
  refine lv_aload_n hx hb dX5_init_0 rfl (lv_at hl 0 rfl) ?_
  refine c_obj B hl.1 (mT_at 190 rfl rfl) (Nat.le_of_ble_eq_true rfl) (Nat.le_of_ble_eq_true rfl) dX5_init_1 ?_
  refine lv_aload_n hx hb dX5_init_4 rfl (lv_at hl 0 rfl) ?_
  refine lv_iconst (v := (0 : Int32)) hx hb dX5_init_5 (by decide) ?_
  refine c_newB B hw (N := 0) h1 rfl (by decide) (by decide) (Nat.le_of_ble_eq_true rfl) (Nat.le_of_ble_eq_true rfl) dX5_init_6 (fun H hw => ?_)
  refine c_pr (x := (a + 1)) B hw (by omega) quX5_9 rfl (by omega) h0 rfl rfl dX5_init_8 (fun H locs hw => ?_)
  refine lv_aload_n hx hb dX5_init_11 rfl (lv_at hl 0 rfl) ?_
  refine lv_iconst (v := (-1 : Int32)) hx hb dX5_init_12 (by decide) ?_
  refine c_pi (x := (-1 : Int32)) B hw (by omega) quX5_15 rfl (by omega) h0 dX5_init_13 (fun H locs hw => ?_)
  rw [hQm]
  exact c_ret hx hb hr hlk hw dX5_init_16
set_option maxRecDepth 20000 in
theorem qfX4_11 : mFl RX4 11 4 0 RX4 TX4 10 := ⟨rfl, by decide, rfl, mT_at 133 rfl rfl, inX_X4⟩
set_option maxRecDepth 20000 in
theorem quX4_11 : mPu RX4 11 4 0 RX4 TX4 10 tyX4 (tyX4 0) true := ⟨qfX4_11, tyX4_ok, nmX4, rfl, tyX4_ok 0 (by decide)⟩
set_option maxRecDepth 20000 in
theorem qfX4_16 : mFl RX4 16 4 1 RX4 TX4 10 := ⟨rfl, by decide, rfl, mT_at 135 rfl rfl, inX_X4⟩
set_option maxRecDepth 20000 in
theorem quX4_16 : mPu RX4 16 4 1 RX4 TX4 10 tyX4 (tyX4 1) true := ⟨qfX4_16, tyX4_ok, nmX4, rfl, tyX4_ok 1 (by decide)⟩
set_option maxRecDepth 20000 in
theorem qfX4_22 : mFl RX4 22 4 3 RX4 TX4 10 := ⟨rfl, by decide, rfl, mT_at 139 rfl rfl, inX_X4⟩
set_option maxRecDepth 20000 in
theorem quX4_22 : mPu RX4 22 4 3 RX4 TX4 10 tyX4 (tyX4 3) true := ⟨qfX4_22, tyX4_ok, nmX4, rfl, tyX4_ok 3 (by decide)⟩
set_option maxRecDepth 20000 in
theorem qfX4_25 : mFl RX4 25 4 4 RX4 TX4 10 := ⟨rfl, by decide, rfl, mT_at 140 rfl rfl, inX_X4⟩
set_option maxRecDepth 20000 in
theorem quX4_25 : mPu RX4 25 4 4 RX4 TX4 10 tyX4 (tyX4 4) true := ⟨qfX4_25, tyX4_ok, nmX4, rfl, tyX4_ok 4 (by decide)⟩
set_option maxRecDepth 20000 in
theorem qfX4_28 : mFl RX4 28 4 5 RX4 TX4 10 := ⟨rfl, by decide, rfl, mT_at 141 rfl rfl, inX_X4⟩
set_option maxRecDepth 20000 in
theorem quX4_28 : mPu RX4 28 4 5 RX4 TX4 10 tyX4 (tyX4 5) true := ⟨qfX4_28, tyX4_ok, nmX4, rfl, tyX4_ok 5 (by decide)⟩
set_option maxRecDepth 20000 in
theorem qfX4_32 : mFl RX4 32 4 6 RX4 TX4 10 := ⟨rfl, by decide, rfl, mT_at 142 rfl rfl, inX_X4⟩
set_option maxRecDepth 20000 in
theorem quX4_32 : mPu RX4 32 4 6 RX4 TX4 10 tyX4 (tyX4 6) true := ⟨qfX4_32, tyX4_ok, nmX4, rfl, tyX4_ok 6 (by decide)⟩
set_option maxRecDepth 20000 in
theorem qfX4_35 : mFl RX4 35 4 7 RX4 TX4 10 := ⟨rfl, by decide, rfl, mT_at 143 rfl rfl, inX_X4⟩
set_option maxRecDepth 20000 in
theorem quX4_35 : mPu RX4 35 4 7 RX4 TX4 10 tyX4 (tyX4 7) true := ⟨qfX4_35, tyX4_ok, nmX4, rfl, tyX4_ok 7 (by decide)⟩
set_option maxRecDepth 20000 in
theorem qfX4_38 : mFl RX4 38 4 8 RX4 TX4 10 := ⟨rfl, by decide, rfl, mT_at 144 rfl rfl, inX_X4⟩
set_option maxRecDepth 20000 in
theorem quX4_38 : mPu RX4 38 4 8 RX4 TX4 10 tyX4 (tyX4 8) true := ⟨qfX4_38, tyX4_ok, nmX4, rfl, tyX4_ok 8 (by decide)⟩
set_option maxRecDepth 20000 in
theorem qfX4_41 : mFl RX4 41 4 9 RX4 TX4 10 := ⟨rfl, by decide, rfl, mT_at 145 rfl rfl, inX_X4⟩
set_option maxRecDepth 20000 in
theorem quX4_41 : mPu RX4 41 4 9 RX4 TX4 10 tyX4 (tyX4 9) true := ⟨qfX4_41, tyX4_ok, nmX4, rfl, tyX4_ok 9 (by decide)⟩
def iK4 (a : Nat) (I : mI) : mI := I
def rK4 (a : Nat) (R : mR) : mR := (mup (mup (mup (mup (mup (mup (mup (rowU (mup (mup (rowU R (a + 1) 0 12 (fun i => some ((a + 1) + 1 + i))) a 0 (some (a + 1))) a 1 (some (a + 14))) (a + 15) 0 13 (fun i => some ((a + 15) + 1 + i))) a 3 (some (a + 15))) a 4 (some (a + 29))) a 5 (some (a + 30))) a 6 (some (a + 31))) a 7 (some (a + 32))) a 8 (some (a + 33))) a 9 (some (a + 34)))
set_option maxHeartbeats 4000000 in
set_option maxRecDepth 100000 in
theorem k_X4 (l : Launch) (g : mG) (K : mK) (b a : Nat) (hg : ∀ i, g.2.1 i = b + i) (I : mI) (J : mJ) (R : mR) (hf : fresh (a + 1) I J R) (h0 : K a = (0, 4)) (h1 : K (a + 1) = (6, 12)) (h14 : K (a + 14) = (1, 12)) (h15 : K (a + 15) = (7, 13)) (h29 : K (a + 29) = (1, 13)) (h30 : K (a + 30) = (4, 13)) (h31 : K (a + 31) = (4, 13)) (h32 : K (a + 32) = (4, 13)) (h33 : K (a + 33) = (1, 13)) (h34 : K (a + 34) = (3, 13)) (hr1 : ∀ i, i < 12 → K (a + 1 + 1 + i) = (1, 12)) (hr15 : ∀ i, i < 13 → K (a + 15 + 1 + i) = (4, 13)) : Met l yX4_init (mWs yX4_init cX4_init 1 none) ({ frames := 1, cells := 34, slots := 428, locals := 20 }) (va_Pc [.ref (g.2.1 a)] (cB g K b (a + 1) I J R)) (cQ g K b (a + 35) (iK4 a I) J (rK4 a R)) 34 428 (up b) := by
  refine cStart RX4 hg hf (by decide) rfl rfl (Nat.le_of_ble_eq_true rfl) ?_
  intro p e s m below meth c ls Qm hQm B hr hlk hmn hs hw hl
  have hx := B.1.1
  have hb := B.1.2.1
  refine lv_aload_n hx hb dX4_init_0 rfl (lv_at hl 0 rfl) ?_
  refine c_obj B hl.1 (mT_at 128 rfl rfl) (Nat.le_of_ble_eq_true rfl) (Nat.le_of_ble_eq_true rfl) dX4_init_1 ?_
  refine lv_aload_n hx hb dX4_init_4 rfl (lv_at hl 0 rfl) ?_
  refine lv_bipush (v := (12 : Int32)) hx hb dX4_init_5 (by decide) ?_
  refine lv_bipush (v := (12 : Int32)) hx hb dX4_init_7 (by decide) ?_
  refine c_mna (ty := .int) (q := 6) (qi := 1) (N := 12) (M := 12) (z := (12, .inl (fun _ => 0))) B hw h1 (fun i hi => hr1 i hi) (mT_at 129 rfl rfl) B.2.2.2.1.2.2.1 (mT_at 75 rfl rfl) (B.2.1.2 5 _ rfl).2 (B.2.1.2 0 _ rfl).2 (fun R => by rw [mE6 (by rw [h1]), h1]) (fun R i hi => by rw [mE1 (by rw [hr1 i hi]), hr1 i hi, hw.2.2.2.I (show a + 1 ≤ a + 1 + 1 + i by omega)]) (fun c => mr_inI c 12) rfl rfl rfl (by decide) rfl (by decide) (by decide) (by decide) (by decide) (Nat.le_of_ble_eq_true rfl) (Nat.le_of_ble_eq_true rfl) dX4_init_9 (fun H hw => ?_)
  refine c_prF (x := (a + 1)) B hw (by omega) quX4_11 rfl hmn rfl (by omega) h0 rfl rfl dX4_init_13 (fun H locs hw => ?_)
  refine lv_aload_n hx hb dX4_init_16 rfl (lv_at hl 0 rfl) ?_
  refine lv_bipush (v := (12 : Int32)) hx hb dX4_init_17 (by decide) ?_
  refine c_newI B hw (N := 12) h14 rfl (by decide) (by decide) (Nat.le_of_ble_eq_true rfl) (Nat.le_of_ble_eq_true rfl) dX4_init_19 (fun H hw => ?_)
  refine c_prF (x := (a + 14)) B hw (by omega) quX4_16 rfl hmn rfl (by omega) h0 rfl rfl dX4_init_21 (fun H locs hw => ?_)
  refine lv_aload_n hx hb dX4_init_24 rfl (lv_at hl 0 rfl) ?_
  refine lv_bipush (v := (13 : Int32)) hx hb dX4_init_25 (by decide) ?_
  refine lv_bipush (v := (13 : Int32)) hx hb dX4_init_27 (by decide) ?_
  refine c_mna (ty := .long) (q := 7) (qi := 4) (N := 13) (M := 13) (z := (13, .inr (.inl (fun _ => 0)))) B hw h15 (fun i hi => hr15 i hi) (mT_at 131 rfl rfl) B.2.2.2.1.2.2.2 (mT_at 167 rfl rfl) (B.2.1.2 6 _ rfl).2 (B.2.1.2 3 _ rfl).2 (fun R => by rw [mE7 (by rw [h15]), h15]) (fun R i hi => by rw [mE4 (by rw [hr15 i hi]), hr15 i hi, hw.2.2.2.J (show a + 15 ≤ a + 15 + 1 + i by omega)]) (fun c => mr_inJ c 13) rfl rfl rfl (by decide) rfl (by decide) (by decide) (by decide) (by decide) (Nat.le_of_ble_eq_true rfl) (Nat.le_of_ble_eq_true rfl) dX4_init_29 (fun H hw => ?_)
  refine c_prF (x := (a + 15)) B hw (by omega) quX4_22 rfl hmn rfl (by omega) h0 rfl rfl dX4_init_33 (fun H locs hw => ?_)
  refine lv_aload_n hx hb dX4_init_36 rfl (lv_at hl 0 rfl) ?_
  refine lv_bipush (v := (13 : Int32)) hx hb dX4_init_37 (by decide) ?_
  refine c_newI B hw (N := 13) h29 rfl (by decide) (by decide) (Nat.le_of_ble_eq_true rfl) (Nat.le_of_ble_eq_true rfl) dX4_init_39 (fun H hw => ?_)
  refine c_prF (x := (a + 29)) B hw (by omega) quX4_25 rfl hmn rfl (by omega) h0 rfl rfl dX4_init_41 (fun H locs hw => ?_)
  refine lv_aload_n hx hb dX4_init_44 rfl (lv_at hl 0 rfl) ?_
  refine lv_bipush (v := (13 : Int32)) hx hb dX4_init_45 (by decide) ?_
  refine c_newL B hw (N := 13) h30 rfl (by decide) (by decide) (Nat.le_of_ble_eq_true rfl) (Nat.le_of_ble_eq_true rfl) dX4_init_47 (fun H hw => ?_)
  refine c_prF (x := (a + 30)) B hw (by omega) quX4_28 rfl hmn rfl (by omega) h0 rfl rfl dX4_init_49 (fun H locs hw => ?_)
  refine lv_aload_n hx hb dX4_init_52 rfl (lv_at hl 0 rfl) ?_
  refine lv_bipush (v := (13 : Int32)) hx hb dX4_init_53 (by decide) ?_
  refine c_newL B hw (N := 13) h31 rfl (by decide) (by decide) (Nat.le_of_ble_eq_true rfl) (Nat.le_of_ble_eq_true rfl) dX4_init_55 (fun H hw => ?_)
  refine c_prF (x := (a + 31)) B hw (by omega) quX4_32 rfl hmn rfl (by omega) h0 rfl rfl dX4_init_57 (fun H locs hw => ?_)
  refine lv_aload_n hx hb dX4_init_60 rfl (lv_at hl 0 rfl) ?_
  refine lv_bipush (v := (13 : Int32)) hx hb dX4_init_61 (by decide) ?_
  refine c_newL B hw (N := 13) h32 rfl (by decide) (by decide) (Nat.le_of_ble_eq_true rfl) (Nat.le_of_ble_eq_true rfl) dX4_init_63 (fun H hw => ?_)
  refine c_prF (x := (a + 32)) B hw (by omega) quX4_35 rfl hmn rfl (by omega) h0 rfl rfl dX4_init_65 (fun H locs hw => ?_)
  refine lv_aload_n hx hb dX4_init_68 rfl (lv_at hl 0 rfl) ?_
  refine lv_bipush (v := (13 : Int32)) hx hb dX4_init_69 (by decide) ?_
  refine c_newI B hw (N := 13) h33 rfl (by decide) (by decide) (Nat.le_of_ble_eq_true rfl) (Nat.le_of_ble_eq_true rfl) dX4_init_71 (fun H hw => ?_)
  refine c_prF (x := (a + 33)) B hw (by omega) quX4_38 rfl hmn rfl (by omega) h0 rfl rfl dX4_init_73 (fun H locs hw => ?_)
  refine lv_aload_n hx hb dX4_init_76 rfl (lv_at hl 0 rfl) ?_
  refine lv_bipush (v := (13 : Int32)) hx hb dX4_init_77 (by decide) ?_
  refine c_newZ B hw (N := 13) h34 rfl (by decide) (by decide) (Nat.le_of_ble_eq_true rfl) (Nat.le_of_ble_eq_true rfl) dX4_init_79 (fun H hw => ?_)
  refine c_prF (x := (a + 34)) B hw (by omega) quX4_41 rfl hmn rfl (by omega) h0 rfl rfl dX4_init_81 (fun H locs hw => ?_)
  rw [hQm]
  exact c_ret hx hb hr hlk hw dX4_init_84
set_option maxRecDepth 20000 in
theorem qfX9_7 : mFl RX9 7 9 0 RX9 TX9 23 := ⟨rfl, by decide, rfl, mT_at 675 rfl rfl, inX_X9⟩
set_option maxRecDepth 20000 in
theorem quX9_7 : mPu RX9 7 9 0 RX9 TX9 23 tyX9 (tyX9 0) true := ⟨qfX9_7, tyX9_ok, nmX9, rfl, tyX9_ok 0 (by decide)⟩
set_option maxRecDepth 20000 in
theorem qfX9_13 : mFl RX9 13 9 1 RX9 TX9 23 := ⟨rfl, by decide, rfl, mT_at 676 rfl rfl, inX_X9⟩
set_option maxRecDepth 20000 in
theorem quX9_13 : mPu RX9 13 9 1 RX9 TX9 23 tyX9 (tyX9 1) true := ⟨qfX9_13, tyX9_ok, nmX9, rfl, tyX9_ok 1 (by decide)⟩
set_option maxRecDepth 20000 in
theorem qfX9_16 : mFl RX9 16 9 2 RX9 TX9 23 := ⟨rfl, by decide, rfl, mT_at 677 rfl rfl, inX_X9⟩
set_option maxRecDepth 20000 in
theorem quX9_16 : mPu RX9 16 9 2 RX9 TX9 23 tyX9 (tyX9 2) true := ⟨qfX9_16, tyX9_ok, nmX9, rfl, tyX9_ok 2 (by decide)⟩
set_option maxRecDepth 20000 in
theorem qfX9_19 : mFl RX9 19 9 3 RX9 TX9 23 := ⟨rfl, by decide, rfl, mT_at 678 rfl rfl, inX_X9⟩
set_option maxRecDepth 20000 in
theorem quX9_19 : mPu RX9 19 9 3 RX9 TX9 23 tyX9 (tyX9 3) true := ⟨qfX9_19, tyX9_ok, nmX9, rfl, tyX9_ok 3 (by decide)⟩
set_option maxRecDepth 20000 in
theorem qfX9_22 : mFl RX9 22 9 4 RX9 TX9 23 := ⟨rfl, by decide, rfl, mT_at 679 rfl rfl, inX_X9⟩
set_option maxRecDepth 20000 in
theorem quX9_22 : mPu RX9 22 9 4 RX9 TX9 23 tyX9 (tyX9 4) true := ⟨qfX9_22, tyX9_ok, nmX9, rfl, tyX9_ok 4 (by decide)⟩
set_option maxRecDepth 20000 in
theorem qfX9_25 : mFl RX9 25 9 5 RX9 TX9 23 := ⟨rfl, by decide, rfl, mT_at 680 rfl rfl, inX_X9⟩
set_option maxRecDepth 20000 in
theorem quX9_25 : mPu RX9 25 9 5 RX9 TX9 23 tyX9 (tyX9 5) true := ⟨qfX9_25, tyX9_ok, nmX9, rfl, tyX9_ok 5 (by decide)⟩
set_option maxRecDepth 20000 in
theorem qfX9_28 : mFl RX9 28 9 6 RX9 TX9 23 := ⟨rfl, by decide, rfl, mT_at 681 rfl rfl, inX_X9⟩
set_option maxRecDepth 20000 in
theorem quX9_28 : mPu RX9 28 9 6 RX9 TX9 23 tyX9 (tyX9 6) true := ⟨qfX9_28, tyX9_ok, nmX9, rfl, tyX9_ok 6 (by decide)⟩
set_option maxRecDepth 20000 in
theorem qfX9_31 : mFl RX9 31 9 7 RX9 TX9 23 := ⟨rfl, by decide, rfl, mT_at 682 rfl rfl, inX_X9⟩
set_option maxRecDepth 20000 in
theorem quX9_31 : mPu RX9 31 9 7 RX9 TX9 23 tyX9 (tyX9 7) true := ⟨qfX9_31, tyX9_ok, nmX9, rfl, tyX9_ok 7 (by decide)⟩
set_option maxRecDepth 20000 in
theorem qfX9_35 : mFl RX9 35 9 8 RX9 TX9 23 := ⟨rfl, by decide, rfl, mT_at 683 rfl rfl, inX_X9⟩
set_option maxRecDepth 20000 in
theorem quX9_35 : mPu RX9 35 9 8 RX9 TX9 23 tyX9 (tyX9 8) true := ⟨qfX9_35, tyX9_ok, nmX9, rfl, tyX9_ok 8 (by decide)⟩
set_option maxRecDepth 20000 in
theorem qfX9_38 : mFl RX9 38 9 9 RX9 TX9 23 := ⟨rfl, by decide, rfl, mT_at 684 rfl rfl, inX_X9⟩
set_option maxRecDepth 20000 in
theorem quX9_38 : mPu RX9 38 9 9 RX9 TX9 23 tyX9 (tyX9 9) true := ⟨qfX9_38, tyX9_ok, nmX9, rfl, tyX9_ok 9 (by decide)⟩
set_option maxRecDepth 20000 in
theorem qfX9_41 : mFl RX9 41 9 11 RX9 TX9 23 := ⟨rfl, by decide, rfl, mT_at 686 rfl rfl, inX_X9⟩
set_option maxRecDepth 20000 in
theorem quX9_41 : mPu RX9 41 9 11 RX9 TX9 23 tyX9 (tyX9 11) true := ⟨qfX9_41, tyX9_ok, nmX9, rfl, tyX9_ok 11 (by decide)⟩
set_option maxRecDepth 20000 in
theorem qfX9_44 : mFl RX9 44 9 12 RX9 TX9 23 := ⟨rfl, by decide, rfl, mT_at 687 rfl rfl, inX_X9⟩
set_option maxRecDepth 20000 in
theorem quX9_44 : mPu RX9 44 9 12 RX9 TX9 23 tyX9 (tyX9 12) true := ⟨qfX9_44, tyX9_ok, nmX9, rfl, tyX9_ok 12 (by decide)⟩
set_option maxRecDepth 20000 in
theorem qfX9_47 : mFl RX9 47 9 13 RX9 TX9 23 := ⟨rfl, by decide, rfl, mT_at 688 rfl rfl, inX_X9⟩
set_option maxRecDepth 20000 in
theorem quX9_47 : mPu RX9 47 9 13 RX9 TX9 23 tyX9 (tyX9 13) true := ⟨qfX9_47, tyX9_ok, nmX9, rfl, tyX9_ok 13 (by decide)⟩
set_option maxRecDepth 20000 in
theorem qfX9_50 : mFl RX9 50 9 14 RX9 TX9 23 := ⟨rfl, by decide, rfl, mT_at 689 rfl rfl, inX_X9⟩
set_option maxRecDepth 20000 in
theorem quX9_50 : mPu RX9 50 9 14 RX9 TX9 23 tyX9 (tyX9 14) true := ⟨qfX9_50, tyX9_ok, nmX9, rfl, tyX9_ok 14 (by decide)⟩
set_option maxRecDepth 20000 in
theorem qfX9_53 : mFl RX9 53 9 15 RX9 TX9 23 := ⟨rfl, by decide, rfl, mT_at 690 rfl rfl, inX_X9⟩
set_option maxRecDepth 20000 in
theorem quX9_53 : mPu RX9 53 9 15 RX9 TX9 23 tyX9 (tyX9 15) true := ⟨qfX9_53, tyX9_ok, nmX9, rfl, tyX9_ok 15 (by decide)⟩
set_option maxRecDepth 20000 in
theorem qfX9_57 : mFl RX9 57 9 16 RX9 TX9 23 := ⟨rfl, by decide, rfl, mT_at 691 rfl rfl, inX_X9⟩
set_option maxRecDepth 20000 in
theorem quX9_57 : mPu RX9 57 9 16 RX9 TX9 23 tyX9 (tyX9 16) true := ⟨qfX9_57, tyX9_ok, nmX9, rfl, tyX9_ok 16 (by decide)⟩
set_option maxRecDepth 20000 in
theorem qfX9_60 : mFl RX9 60 9 20 RX9 TX9 23 := ⟨rfl, by decide, rfl, mT_at 695 rfl rfl, inX_X9⟩
set_option maxRecDepth 20000 in
theorem quX9_60 : mPu RX9 60 9 20 RX9 TX9 23 tyX9 .int false := ⟨qfX9_60, tyX9_ok, nmX9, rfl, tyX9_ok 20 (by decide)⟩
def iK9 (a : Nat) (I : mI) : mI := (mup (mup (mup (mup (mup (mup (mup (mup (mup (mup (mup (mup (mup (mup (mup (mup (mup (mup (mup (mup (mup (mup (mup (mup (mup (mup (mup (mup (mup (mup (mup (mup (mup (mup (mup (mup (mup (mup (mup (mup (mup (mup (mup I (a + 14) 0 (0)) (a + 14) 1 (1)) (a + 14) 2 (4)) (a + 14) 3 (6)) (a + 14) 4 (5)) (a + 14) 5 (5)) (a + 14) 6 (5)) (a + 14) 7 (5)) (a + 14) 8 (3)) (a + 14) 9 (3)) (a + 14) 10 (3)) (a + 14) 11 (3)) (a + 14) 12 (3)) (a + 14) 13 (3)) (a + 14) 14 (3)) (a + 14) 15 (3)) (a + 14) 16 (3)) (a + 14) 17 (2)) (a + 14) 18 (20)) (a + 14) 19 (5)) (a + 14) 20 (2)) (a + 14) 21 (0)) (a + 14) 22 (0)) (a + 14) 23 (0)) (a + 14) 24 (0)) (a + 14) 25 (0)) (a + 14) 26 (0)) (a + 14) 27 (0)) (a + 14) 28 (0)) (a + 14) 29 (0)) (a + 14) 30 (0)) (a + 14) 31 (0)) (a + 14) 32 (0)) (a + 14) 33 (0)) (a + 14) 34 (0)) (a + 14) 35 (0)) (a + 14) 36 (0)) (a + 14) 37 (0)) (a + 14) 38 (0)) (a + 14) 39 (0)) (a + 14) 40 (0)) (a + 14) 41 (0)) a 20 (-1))
def rK9 (a : Nat) (R : mR) : mR := (mup (mup (mup (mup (mup (mup (mup (mup (mup (mup (mup (mup (mup (mup (mup (mup R a 0 (some (a + 1))) a 1 (some (a + 2))) a 2 (some (a + 3))) a 3 (some (a + 4))) a 4 (some (a + 5))) a 5 (some (a + 6))) a 6 (some (a + 7))) a 7 (some (a + 8))) a 8 (some (a + 9))) a 9 (some (a + 10))) a 11 (some (a + 11))) a 12 (some (a + 12))) a 13 (some (a + 13))) a 14 (some (a + 14))) a 15 (some (a + 15))) a 16 (some (a + 16)))
set_option maxHeartbeats 4000000 in
set_option maxRecDepth 100000 in
theorem k_X9 (l : Launch) (g : mG) (K : mK) (b a : Nat) (hg : ∀ i, g.2.1 i = b + i) (I : mI) (J : mJ) (R : mR) (hf : fresh (a + 1) I J R) (h0 : K a = (0, 9)) (h1 : K (a + 1) = (1, 2)) (h2 : K (a + 2) = (1, 456)) (h3 : K (a + 3) = (1, 24)) (h4 : K (a + 4) = (1, 24)) (h5 : K (a + 5) = (1, 12)) (h6 : K (a + 6) = (1, 12)) (h7 : K (a + 7) = (1, 12)) (h8 : K (a + 8) = (1, 144)) (h9 : K (a + 9) = (1, 53248)) (h10 : K (a + 10) = (1, 12)) (h11 : K (a + 11) = (1, 60)) (h12 : K (a + 12) = (1, 60)) (h13 : K (a + 13) = (1, 60)) (h14 : K (a + 14) = (1, 42)) (h15 : K (a + 15) = (2, 500)) (h16 : K (a + 16) = (2, 500)) : Met l yX9_init (mWs yX9_init cX9_init 1 none) ({ frames := 1, cells := 16, slots := 55168, locals := 20 }) (va_Pc [.ref (g.2.1 a)] (cB g K b (a + 1) I J R)) (cQ g K b (a + 17) (iK9 a I) J (rK9 a R)) 16 55168 (up b) := by
  refine cStart RX9 hg hf (by decide) rfl rfl (Nat.le_of_ble_eq_true rfl) ?_
  intro p e s m below meth c ls Qm hQm B hr hlk hmn hs hw hl
  have hx := B.1.1
  have hb := B.1.2.1
  refine lv_aload_n hx hb dX9_init_0 rfl (lv_at hl 0 rfl) ?_
  refine c_obj B hl.1 (mT_at 673 rfl rfl) (Nat.le_of_ble_eq_true rfl) (Nat.le_of_ble_eq_true rfl) dX9_init_1 ?_
  refine lv_aload_n hx hb dX9_init_4 rfl (lv_at hl 0 rfl) ?_
  refine lv_iconst (v := (2 : Int32)) hx hb dX9_init_5 (by decide) ?_
  refine c_newI B hw (N := 2) h1 rfl (by decide) (by decide) (Nat.le_of_ble_eq_true rfl) (Nat.le_of_ble_eq_true rfl) dX9_init_6 (fun H hw => ?_)
  refine c_prF (x := (a + 1)) B hw (by omega) quX9_7 rfl hmn rfl (by omega) h0 rfl rfl dX9_init_8 (fun H locs hw => ?_)
  refine lv_aload_n hx hb dX9_init_11 rfl (lv_at hl 0 rfl) ?_
  refine lv_sipush (v := (456 : Int32)) hx hb dX9_init_12 (by decide) ?_
  refine c_newI B hw (N := 456) h2 rfl (by decide) (by decide) (Nat.le_of_ble_eq_true rfl) (Nat.le_of_ble_eq_true rfl) dX9_init_15 (fun H hw => ?_)
  refine c_prF (x := (a + 2)) B hw (by omega) quX9_13 rfl hmn rfl (by omega) h0 rfl rfl dX9_init_17 (fun H locs hw => ?_)
  refine lv_aload_n hx hb dX9_init_20 rfl (lv_at hl 0 rfl) ?_
  refine lv_bipush (v := (24 : Int32)) hx hb dX9_init_21 (by decide) ?_
  refine c_newI B hw (N := 24) h3 rfl (by decide) (by decide) (Nat.le_of_ble_eq_true rfl) (Nat.le_of_ble_eq_true rfl) dX9_init_23 (fun H hw => ?_)
  refine c_prF (x := (a + 3)) B hw (by omega) quX9_16 rfl hmn rfl (by omega) h0 rfl rfl dX9_init_25 (fun H locs hw => ?_)
  refine lv_aload_n hx hb dX9_init_28 rfl (lv_at hl 0 rfl) ?_
  refine lv_bipush (v := (24 : Int32)) hx hb dX9_init_29 (by decide) ?_
  refine c_newI B hw (N := 24) h4 rfl (by decide) (by decide) (Nat.le_of_ble_eq_true rfl) (Nat.le_of_ble_eq_true rfl) dX9_init_31 (fun H hw => ?_)
  refine c_prF (x := (a + 4)) B hw (by omega) quX9_19 rfl hmn rfl (by omega) h0 rfl rfl dX9_init_33 (fun H locs hw => ?_)
  refine lv_aload_n hx hb dX9_init_36 rfl (lv_at hl 0 rfl) ?_
  refine lv_bipush (v := (12 : Int32)) hx hb dX9_init_37 (by decide) ?_
  refine c_newI B hw (N := 12) h5 rfl (by decide) (by decide) (Nat.le_of_ble_eq_true rfl) (Nat.le_of_ble_eq_true rfl) dX9_init_39 (fun H hw => ?_)
  refine c_prF (x := (a + 5)) B hw (by omega) quX9_22 rfl hmn rfl (by omega) h0 rfl rfl dX9_init_41 (fun H locs hw => ?_)
  refine lv_aload_n hx hb dX9_init_44 rfl (lv_at hl 0 rfl) ?_
  refine lv_bipush (v := (12 : Int32)) hx hb dX9_init_45 (by decide) ?_
  refine c_newI B hw (N := 12) h6 rfl (by decide) (by decide) (Nat.le_of_ble_eq_true rfl) (Nat.le_of_ble_eq_true rfl) dX9_init_47 (fun H hw => ?_)
  refine c_prF (x := (a + 6)) B hw (by omega) quX9_25 rfl hmn rfl (by omega) h0 rfl rfl dX9_init_49 (fun H locs hw => ?_)
  refine lv_aload_n hx hb dX9_init_52 rfl (lv_at hl 0 rfl) ?_
  refine lv_bipush (v := (12 : Int32)) hx hb dX9_init_53 (by decide) ?_
  refine c_newI B hw (N := 12) h7 rfl (by decide) (by decide) (Nat.le_of_ble_eq_true rfl) (Nat.le_of_ble_eq_true rfl) dX9_init_55 (fun H hw => ?_)
  refine c_prF (x := (a + 7)) B hw (by omega) quX9_28 rfl hmn rfl (by omega) h0 rfl rfl dX9_init_57 (fun H locs hw => ?_)
  refine lv_aload_n hx hb dX9_init_60 rfl (lv_at hl 0 rfl) ?_
  refine lv_sipush (v := (144 : Int32)) hx hb dX9_init_61 (by decide) ?_
  refine c_newI B hw (N := 144) h8 rfl (by decide) (by decide) (Nat.le_of_ble_eq_true rfl) (Nat.le_of_ble_eq_true rfl) dX9_init_64 (fun H hw => ?_)
  refine c_prF (x := (a + 8)) B hw (by omega) quX9_31 rfl hmn rfl (by omega) h0 rfl rfl dX9_init_66 (fun H locs hw => ?_)
  refine lv_aload_n hx hb dX9_init_69 rfl (lv_at hl 0 rfl) ?_
  refine lv_ldc (v := (53248 : Int32)) hx hb B.1.2.2.2.1 (B.1.2.2.2.2 (Cond.constant RX9 34 (53248 : Int32)) (mT_at 674 rfl rfl)) dX9_init_70 ?_
  refine c_newI B hw (N := 53248) h9 rfl (by decide) (by decide) (Nat.le_of_ble_eq_true rfl) (Nat.le_of_ble_eq_true rfl) dX9_init_72 (fun H hw => ?_)
  refine c_prF (x := (a + 9)) B hw (by omega) quX9_35 rfl hmn rfl (by omega) h0 rfl rfl dX9_init_74 (fun H locs hw => ?_)
  refine lv_aload_n hx hb dX9_init_77 rfl (lv_at hl 0 rfl) ?_
  refine lv_bipush (v := (12 : Int32)) hx hb dX9_init_78 (by decide) ?_
  refine c_newI B hw (N := 12) h10 rfl (by decide) (by decide) (Nat.le_of_ble_eq_true rfl) (Nat.le_of_ble_eq_true rfl) dX9_init_80 (fun H hw => ?_)
  refine c_prF (x := (a + 10)) B hw (by omega) quX9_38 rfl hmn rfl (by omega) h0 rfl rfl dX9_init_82 (fun H locs hw => ?_)
  refine lv_aload_n hx hb dX9_init_85 rfl (lv_at hl 0 rfl) ?_
  refine lv_bipush (v := (60 : Int32)) hx hb dX9_init_86 (by decide) ?_
  refine c_newI B hw (N := 60) h11 rfl (by decide) (by decide) (Nat.le_of_ble_eq_true rfl) (Nat.le_of_ble_eq_true rfl) dX9_init_88 (fun H hw => ?_)
  refine c_prF (x := (a + 11)) B hw (by omega) quX9_41 rfl hmn rfl (by omega) h0 rfl rfl dX9_init_90 (fun H locs hw => ?_)
  refine lv_aload_n hx hb dX9_init_93 rfl (lv_at hl 0 rfl) ?_
  refine lv_bipush (v := (60 : Int32)) hx hb dX9_init_94 (by decide) ?_
  refine c_newI B hw (N := 60) h12 rfl (by decide) (by decide) (Nat.le_of_ble_eq_true rfl) (Nat.le_of_ble_eq_true rfl) dX9_init_96 (fun H hw => ?_)
  refine c_prF (x := (a + 12)) B hw (by omega) quX9_44 rfl hmn rfl (by omega) h0 rfl rfl dX9_init_98 (fun H locs hw => ?_)
  refine lv_aload_n hx hb dX9_init_101 rfl (lv_at hl 0 rfl) ?_
  refine lv_bipush (v := (60 : Int32)) hx hb dX9_init_102 (by decide) ?_
  refine c_newI B hw (N := 60) h13 rfl (by decide) (by decide) (Nat.le_of_ble_eq_true rfl) (Nat.le_of_ble_eq_true rfl) dX9_init_104 (fun H hw => ?_)
  refine c_prF (x := (a + 13)) B hw (by omega) quX9_47 rfl hmn rfl (by omega) h0 rfl rfl dX9_init_106 (fun H locs hw => ?_)
  refine lv_aload_n hx hb dX9_init_109 rfl (lv_at hl 0 rfl) ?_
  refine lv_bipush (v := (42 : Int32)) hx hb dX9_init_110 (by decide) ?_
  refine c_newI B hw (N := 42) h14 rfl (by decide) (by decide) (Nat.le_of_ble_eq_true rfl) (Nat.le_of_ble_eq_true rfl) dX9_init_112 (fun H hw => ?_)
  refine lv_dup hx hb dX9_init_114 rfl ?_
  refine lv_iconst (v := (0 : Int32)) hx hb dX9_init_115 (by decide) ?_
  refine lv_iconst (v := (0 : Int32)) hx hb dX9_init_116 (by decide) ?_
  refine c_st1 (x := (0 : Int32)) B hw (by omega) (by omega) (show mIx K _ 1 (0 : Int32) from mx 0 h14 (by decide) (by decide)) dX9_init_117 (fun H locs hw => ?_)
  refine lv_dup hx hb dX9_init_118 rfl ?_
  refine lv_iconst (v := (1 : Int32)) hx hb dX9_init_119 (by decide) ?_
  refine lv_iconst (v := (1 : Int32)) hx hb dX9_init_120 (by decide) ?_
  refine c_st1 (x := (1 : Int32)) B hw (by omega) (by omega) (show mIx K _ 1 (1 : Int32) from mx 1 h14 (by decide) (by decide)) dX9_init_121 (fun H locs hw => ?_)
  refine lv_dup hx hb dX9_init_122 rfl ?_
  refine lv_iconst (v := (2 : Int32)) hx hb dX9_init_123 (by decide) ?_
  refine lv_iconst (v := (4 : Int32)) hx hb dX9_init_124 (by decide) ?_
  refine c_st1 (x := (4 : Int32)) B hw (by omega) (by omega) (show mIx K _ 1 (2 : Int32) from mx 2 h14 (by decide) (by decide)) dX9_init_125 (fun H locs hw => ?_)
  refine lv_dup hx hb dX9_init_126 rfl ?_
  refine lv_iconst (v := (3 : Int32)) hx hb dX9_init_127 (by decide) ?_
  refine lv_bipush (v := (6 : Int32)) hx hb dX9_init_128 (by decide) ?_
  refine c_st1 (x := (6 : Int32)) B hw (by omega) (by omega) (show mIx K _ 1 (3 : Int32) from mx 3 h14 (by decide) (by decide)) dX9_init_130 (fun H locs hw => ?_)
  refine lv_dup hx hb dX9_init_131 rfl ?_
  refine lv_iconst (v := (4 : Int32)) hx hb dX9_init_132 (by decide) ?_
  refine lv_iconst (v := (5 : Int32)) hx hb dX9_init_133 (by decide) ?_
  refine c_st1 (x := (5 : Int32)) B hw (by omega) (by omega) (show mIx K _ 1 (4 : Int32) from mx 4 h14 (by decide) (by decide)) dX9_init_134 (fun H locs hw => ?_)
  refine lv_dup hx hb dX9_init_135 rfl ?_
  refine lv_iconst (v := (5 : Int32)) hx hb dX9_init_136 (by decide) ?_
  refine lv_iconst (v := (5 : Int32)) hx hb dX9_init_137 (by decide) ?_
  refine c_st1 (x := (5 : Int32)) B hw (by omega) (by omega) (show mIx K _ 1 (5 : Int32) from mx 5 h14 (by decide) (by decide)) dX9_init_138 (fun H locs hw => ?_)
  refine lv_dup hx hb dX9_init_139 rfl ?_
  refine lv_bipush (v := (6 : Int32)) hx hb dX9_init_140 (by decide) ?_
  refine lv_iconst (v := (5 : Int32)) hx hb dX9_init_142 (by decide) ?_
  refine c_st1 (x := (5 : Int32)) B hw (by omega) (by omega) (show mIx K _ 1 (6 : Int32) from mx 6 h14 (by decide) (by decide)) dX9_init_143 (fun H locs hw => ?_)
  refine lv_dup hx hb dX9_init_144 rfl ?_
  refine lv_bipush (v := (7 : Int32)) hx hb dX9_init_145 (by decide) ?_
  refine lv_iconst (v := (5 : Int32)) hx hb dX9_init_147 (by decide) ?_
  refine c_st1 (x := (5 : Int32)) B hw (by omega) (by omega) (show mIx K _ 1 (7 : Int32) from mx 7 h14 (by decide) (by decide)) dX9_init_148 (fun H locs hw => ?_)
  refine lv_dup hx hb dX9_init_149 rfl ?_
  refine lv_bipush (v := (8 : Int32)) hx hb dX9_init_150 (by decide) ?_
  refine lv_iconst (v := (3 : Int32)) hx hb dX9_init_152 (by decide) ?_
  refine c_st1 (x := (3 : Int32)) B hw (by omega) (by omega) (show mIx K _ 1 (8 : Int32) from mx 8 h14 (by decide) (by decide)) dX9_init_153 (fun H locs hw => ?_)
  refine lv_dup hx hb dX9_init_154 rfl ?_
  refine lv_bipush (v := (9 : Int32)) hx hb dX9_init_155 (by decide) ?_
  refine lv_iconst (v := (3 : Int32)) hx hb dX9_init_157 (by decide) ?_
  refine c_st1 (x := (3 : Int32)) B hw (by omega) (by omega) (show mIx K _ 1 (9 : Int32) from mx 9 h14 (by decide) (by decide)) dX9_init_158 (fun H locs hw => ?_)
  refine lv_dup hx hb dX9_init_159 rfl ?_
  refine lv_bipush (v := (10 : Int32)) hx hb dX9_init_160 (by decide) ?_
  refine lv_iconst (v := (3 : Int32)) hx hb dX9_init_162 (by decide) ?_
  refine c_st1 (x := (3 : Int32)) B hw (by omega) (by omega) (show mIx K _ 1 (10 : Int32) from mx 10 h14 (by decide) (by decide)) dX9_init_163 (fun H locs hw => ?_)
  refine lv_dup hx hb dX9_init_164 rfl ?_
  refine lv_bipush (v := (11 : Int32)) hx hb dX9_init_165 (by decide) ?_
  refine lv_iconst (v := (3 : Int32)) hx hb dX9_init_167 (by decide) ?_
  refine c_st1 (x := (3 : Int32)) B hw (by omega) (by omega) (show mIx K _ 1 (11 : Int32) from mx 11 h14 (by decide) (by decide)) dX9_init_168 (fun H locs hw => ?_)
  refine lv_dup hx hb dX9_init_169 rfl ?_
  refine lv_bipush (v := (12 : Int32)) hx hb dX9_init_170 (by decide) ?_
  refine lv_iconst (v := (3 : Int32)) hx hb dX9_init_172 (by decide) ?_
  refine c_st1 (x := (3 : Int32)) B hw (by omega) (by omega) (show mIx K _ 1 (12 : Int32) from mx 12 h14 (by decide) (by decide)) dX9_init_173 (fun H locs hw => ?_)
  refine lv_dup hx hb dX9_init_174 rfl ?_
  refine lv_bipush (v := (13 : Int32)) hx hb dX9_init_175 (by decide) ?_
  refine lv_iconst (v := (3 : Int32)) hx hb dX9_init_177 (by decide) ?_
  refine c_st1 (x := (3 : Int32)) B hw (by omega) (by omega) (show mIx K _ 1 (13 : Int32) from mx 13 h14 (by decide) (by decide)) dX9_init_178 (fun H locs hw => ?_)
  refine lv_dup hx hb dX9_init_179 rfl ?_
  refine lv_bipush (v := (14 : Int32)) hx hb dX9_init_180 (by decide) ?_
  refine lv_iconst (v := (3 : Int32)) hx hb dX9_init_182 (by decide) ?_
  refine c_st1 (x := (3 : Int32)) B hw (by omega) (by omega) (show mIx K _ 1 (14 : Int32) from mx 14 h14 (by decide) (by decide)) dX9_init_183 (fun H locs hw => ?_)
  refine lv_dup hx hb dX9_init_184 rfl ?_
  refine lv_bipush (v := (15 : Int32)) hx hb dX9_init_185 (by decide) ?_
  refine lv_iconst (v := (3 : Int32)) hx hb dX9_init_187 (by decide) ?_
  refine c_st1 (x := (3 : Int32)) B hw (by omega) (by omega) (show mIx K _ 1 (15 : Int32) from mx 15 h14 (by decide) (by decide)) dX9_init_188 (fun H locs hw => ?_)
  refine lv_dup hx hb dX9_init_189 rfl ?_
  refine lv_bipush (v := (16 : Int32)) hx hb dX9_init_190 (by decide) ?_
  refine lv_iconst (v := (3 : Int32)) hx hb dX9_init_192 (by decide) ?_
  refine c_st1 (x := (3 : Int32)) B hw (by omega) (by omega) (show mIx K _ 1 (16 : Int32) from mx 16 h14 (by decide) (by decide)) dX9_init_193 (fun H locs hw => ?_)
  refine lv_dup hx hb dX9_init_194 rfl ?_
  refine lv_bipush (v := (17 : Int32)) hx hb dX9_init_195 (by decide) ?_
  refine lv_iconst (v := (2 : Int32)) hx hb dX9_init_197 (by decide) ?_
  refine c_st1 (x := (2 : Int32)) B hw (by omega) (by omega) (show mIx K _ 1 (17 : Int32) from mx 17 h14 (by decide) (by decide)) dX9_init_198 (fun H locs hw => ?_)
  refine lv_dup hx hb dX9_init_199 rfl ?_
  refine lv_bipush (v := (18 : Int32)) hx hb dX9_init_200 (by decide) ?_
  refine lv_bipush (v := (20 : Int32)) hx hb dX9_init_202 (by decide) ?_
  refine c_st1 (x := (20 : Int32)) B hw (by omega) (by omega) (show mIx K _ 1 (18 : Int32) from mx 18 h14 (by decide) (by decide)) dX9_init_204 (fun H locs hw => ?_)
  refine lv_dup hx hb dX9_init_205 rfl ?_
  refine lv_bipush (v := (19 : Int32)) hx hb dX9_init_206 (by decide) ?_
  refine lv_iconst (v := (5 : Int32)) hx hb dX9_init_208 (by decide) ?_
  refine c_st1 (x := (5 : Int32)) B hw (by omega) (by omega) (show mIx K _ 1 (19 : Int32) from mx 19 h14 (by decide) (by decide)) dX9_init_209 (fun H locs hw => ?_)
  refine lv_dup hx hb dX9_init_210 rfl ?_
  refine lv_bipush (v := (20 : Int32)) hx hb dX9_init_211 (by decide) ?_
  refine lv_iconst (v := (2 : Int32)) hx hb dX9_init_213 (by decide) ?_
  refine c_st1 (x := (2 : Int32)) B hw (by omega) (by omega) (show mIx K _ 1 (20 : Int32) from mx 20 h14 (by decide) (by decide)) dX9_init_214 (fun H locs hw => ?_)
  refine lv_dup hx hb dX9_init_215 rfl ?_
  refine lv_bipush (v := (21 : Int32)) hx hb dX9_init_216 (by decide) ?_
  refine lv_iconst (v := (0 : Int32)) hx hb dX9_init_218 (by decide) ?_
  refine c_st1 (x := (0 : Int32)) B hw (by omega) (by omega) (show mIx K _ 1 (21 : Int32) from mx 21 h14 (by decide) (by decide)) dX9_init_219 (fun H locs hw => ?_)
  refine lv_dup hx hb dX9_init_220 rfl ?_
  refine lv_bipush (v := (22 : Int32)) hx hb dX9_init_221 (by decide) ?_
  refine lv_iconst (v := (0 : Int32)) hx hb dX9_init_223 (by decide) ?_
  refine c_st1 (x := (0 : Int32)) B hw (by omega) (by omega) (show mIx K _ 1 (22 : Int32) from mx 22 h14 (by decide) (by decide)) dX9_init_224 (fun H locs hw => ?_)
  refine lv_dup hx hb dX9_init_225 rfl ?_
  refine lv_bipush (v := (23 : Int32)) hx hb dX9_init_226 (by decide) ?_
  refine lv_iconst (v := (0 : Int32)) hx hb dX9_init_228 (by decide) ?_
  refine c_st1 (x := (0 : Int32)) B hw (by omega) (by omega) (show mIx K _ 1 (23 : Int32) from mx 23 h14 (by decide) (by decide)) dX9_init_229 (fun H locs hw => ?_)
  refine lv_dup hx hb dX9_init_230 rfl ?_
  refine lv_bipush (v := (24 : Int32)) hx hb dX9_init_231 (by decide) ?_
  refine lv_iconst (v := (0 : Int32)) hx hb dX9_init_233 (by decide) ?_
  refine c_st1 (x := (0 : Int32)) B hw (by omega) (by omega) (show mIx K _ 1 (24 : Int32) from mx 24 h14 (by decide) (by decide)) dX9_init_234 (fun H locs hw => ?_)
  refine lv_dup hx hb dX9_init_235 rfl ?_
  refine lv_bipush (v := (25 : Int32)) hx hb dX9_init_236 (by decide) ?_
  refine lv_iconst (v := (0 : Int32)) hx hb dX9_init_238 (by decide) ?_
  refine c_st1 (x := (0 : Int32)) B hw (by omega) (by omega) (show mIx K _ 1 (25 : Int32) from mx 25 h14 (by decide) (by decide)) dX9_init_239 (fun H locs hw => ?_)
  refine lv_dup hx hb dX9_init_240 rfl ?_
  refine lv_bipush (v := (26 : Int32)) hx hb dX9_init_241 (by decide) ?_
  refine lv_iconst (v := (0 : Int32)) hx hb dX9_init_243 (by decide) ?_
  refine c_st1 (x := (0 : Int32)) B hw (by omega) (by omega) (show mIx K _ 1 (26 : Int32) from mx 26 h14 (by decide) (by decide)) dX9_init_244 (fun H locs hw => ?_)
  refine lv_dup hx hb dX9_init_245 rfl ?_
  refine lv_bipush (v := (27 : Int32)) hx hb dX9_init_246 (by decide) ?_
  refine lv_iconst (v := (0 : Int32)) hx hb dX9_init_248 (by decide) ?_
  refine c_st1 (x := (0 : Int32)) B hw (by omega) (by omega) (show mIx K _ 1 (27 : Int32) from mx 27 h14 (by decide) (by decide)) dX9_init_249 (fun H locs hw => ?_)
  refine lv_dup hx hb dX9_init_250 rfl ?_
  refine lv_bipush (v := (28 : Int32)) hx hb dX9_init_251 (by decide) ?_
  refine lv_iconst (v := (0 : Int32)) hx hb dX9_init_253 (by decide) ?_
  refine c_st1 (x := (0 : Int32)) B hw (by omega) (by omega) (show mIx K _ 1 (28 : Int32) from mx 28 h14 (by decide) (by decide)) dX9_init_254 (fun H locs hw => ?_)
  refine lv_dup hx hb dX9_init_255 rfl ?_
  refine lv_bipush (v := (29 : Int32)) hx hb dX9_init_256 (by decide) ?_
  refine lv_iconst (v := (0 : Int32)) hx hb dX9_init_258 (by decide) ?_
  refine c_st1 (x := (0 : Int32)) B hw (by omega) (by omega) (show mIx K _ 1 (29 : Int32) from mx 29 h14 (by decide) (by decide)) dX9_init_259 (fun H locs hw => ?_)
  refine lv_dup hx hb dX9_init_260 rfl ?_
  refine lv_bipush (v := (30 : Int32)) hx hb dX9_init_261 (by decide) ?_
  refine lv_iconst (v := (0 : Int32)) hx hb dX9_init_263 (by decide) ?_
  refine c_st1 (x := (0 : Int32)) B hw (by omega) (by omega) (show mIx K _ 1 (30 : Int32) from mx 30 h14 (by decide) (by decide)) dX9_init_264 (fun H locs hw => ?_)
  refine lv_dup hx hb dX9_init_265 rfl ?_
  refine lv_bipush (v := (31 : Int32)) hx hb dX9_init_266 (by decide) ?_
  refine lv_iconst (v := (0 : Int32)) hx hb dX9_init_268 (by decide) ?_
  refine c_st1 (x := (0 : Int32)) B hw (by omega) (by omega) (show mIx K _ 1 (31 : Int32) from mx 31 h14 (by decide) (by decide)) dX9_init_269 (fun H locs hw => ?_)
  refine lv_dup hx hb dX9_init_270 rfl ?_
  refine lv_bipush (v := (32 : Int32)) hx hb dX9_init_271 (by decide) ?_
  refine lv_iconst (v := (0 : Int32)) hx hb dX9_init_273 (by decide) ?_
  refine c_st1 (x := (0 : Int32)) B hw (by omega) (by omega) (show mIx K _ 1 (32 : Int32) from mx 32 h14 (by decide) (by decide)) dX9_init_274 (fun H locs hw => ?_)
  refine lv_dup hx hb dX9_init_275 rfl ?_
  refine lv_bipush (v := (33 : Int32)) hx hb dX9_init_276 (by decide) ?_
  refine lv_iconst (v := (0 : Int32)) hx hb dX9_init_278 (by decide) ?_
  refine c_st1 (x := (0 : Int32)) B hw (by omega) (by omega) (show mIx K _ 1 (33 : Int32) from mx 33 h14 (by decide) (by decide)) dX9_init_279 (fun H locs hw => ?_)
  refine lv_dup hx hb dX9_init_280 rfl ?_
  refine lv_bipush (v := (34 : Int32)) hx hb dX9_init_281 (by decide) ?_
  refine lv_iconst (v := (0 : Int32)) hx hb dX9_init_283 (by decide) ?_
  refine c_st1 (x := (0 : Int32)) B hw (by omega) (by omega) (show mIx K _ 1 (34 : Int32) from mx 34 h14 (by decide) (by decide)) dX9_init_284 (fun H locs hw => ?_)
  refine lv_dup hx hb dX9_init_285 rfl ?_
  refine lv_bipush (v := (35 : Int32)) hx hb dX9_init_286 (by decide) ?_
  refine lv_iconst (v := (0 : Int32)) hx hb dX9_init_288 (by decide) ?_
  refine c_st1 (x := (0 : Int32)) B hw (by omega) (by omega) (show mIx K _ 1 (35 : Int32) from mx 35 h14 (by decide) (by decide)) dX9_init_289 (fun H locs hw => ?_)
  refine lv_dup hx hb dX9_init_290 rfl ?_
  refine lv_bipush (v := (36 : Int32)) hx hb dX9_init_291 (by decide) ?_
  refine lv_iconst (v := (0 : Int32)) hx hb dX9_init_293 (by decide) ?_
  refine c_st1 (x := (0 : Int32)) B hw (by omega) (by omega) (show mIx K _ 1 (36 : Int32) from mx 36 h14 (by decide) (by decide)) dX9_init_294 (fun H locs hw => ?_)
  refine lv_dup hx hb dX9_init_295 rfl ?_
  refine lv_bipush (v := (37 : Int32)) hx hb dX9_init_296 (by decide) ?_
  refine lv_iconst (v := (0 : Int32)) hx hb dX9_init_298 (by decide) ?_
  refine c_st1 (x := (0 : Int32)) B hw (by omega) (by omega) (show mIx K _ 1 (37 : Int32) from mx 37 h14 (by decide) (by decide)) dX9_init_299 (fun H locs hw => ?_)
  refine lv_dup hx hb dX9_init_300 rfl ?_
  refine lv_bipush (v := (38 : Int32)) hx hb dX9_init_301 (by decide) ?_
  refine lv_iconst (v := (0 : Int32)) hx hb dX9_init_303 (by decide) ?_
  refine c_st1 (x := (0 : Int32)) B hw (by omega) (by omega) (show mIx K _ 1 (38 : Int32) from mx 38 h14 (by decide) (by decide)) dX9_init_304 (fun H locs hw => ?_)
  refine lv_dup hx hb dX9_init_305 rfl ?_
  refine lv_bipush (v := (39 : Int32)) hx hb dX9_init_306 (by decide) ?_
  refine lv_iconst (v := (0 : Int32)) hx hb dX9_init_308 (by decide) ?_
  refine c_st1 (x := (0 : Int32)) B hw (by omega) (by omega) (show mIx K _ 1 (39 : Int32) from mx 39 h14 (by decide) (by decide)) dX9_init_309 (fun H locs hw => ?_)
  refine lv_dup hx hb dX9_init_310 rfl ?_
  refine lv_bipush (v := (40 : Int32)) hx hb dX9_init_311 (by decide) ?_
  refine lv_iconst (v := (0 : Int32)) hx hb dX9_init_313 (by decide) ?_
  refine c_st1 (x := (0 : Int32)) B hw (by omega) (by omega) (show mIx K _ 1 (40 : Int32) from mx 40 h14 (by decide) (by decide)) dX9_init_314 (fun H locs hw => ?_)
  refine lv_dup hx hb dX9_init_315 rfl ?_
  refine lv_bipush (v := (41 : Int32)) hx hb dX9_init_316 (by decide) ?_
  refine lv_iconst (v := (0 : Int32)) hx hb dX9_init_318 (by decide) ?_
  refine c_st1 (x := (0 : Int32)) B hw (by omega) (by omega) (show mIx K _ 1 (41 : Int32) from mx 41 h14 (by decide) (by decide)) dX9_init_319 (fun H locs hw => ?_)
  refine c_prF (x := (a + 14)) B hw (by omega) quX9_50 rfl hmn rfl (by omega) h0 rfl rfl dX9_init_320 (fun H locs hw => ?_)
  refine lv_aload_n hx hb dX9_init_323 rfl (lv_at hl 0 rfl) ?_
  refine lv_sipush (v := (500 : Int32)) hx hb dX9_init_324 (by decide) ?_
  refine c_newB B hw (N := 500) h15 rfl (by decide) (by decide) (Nat.le_of_ble_eq_true rfl) (Nat.le_of_ble_eq_true rfl) dX9_init_327 (fun H hw => ?_)
  refine c_prF (x := (a + 15)) B hw (by omega) quX9_53 rfl hmn rfl (by omega) h0 rfl rfl dX9_init_329 (fun H locs hw => ?_)
  refine lv_aload_n hx hb dX9_init_332 rfl (lv_at hl 0 rfl) ?_
  refine lv_sipush (v := (500 : Int32)) hx hb dX9_init_333 (by decide) ?_
  refine c_newB B hw (N := 500) h16 rfl (by decide) (by decide) (Nat.le_of_ble_eq_true rfl) (Nat.le_of_ble_eq_true rfl) dX9_init_336 (fun H hw => ?_)
  refine c_prF (x := (a + 16)) B hw (by omega) quX9_57 rfl hmn rfl (by omega) h0 rfl rfl dX9_init_338 (fun H locs hw => ?_)
  refine lv_aload_n hx hb dX9_init_341 rfl (lv_at hl 0 rfl) ?_
  refine lv_iconst (v := (-1 : Int32)) hx hb dX9_init_342 (by decide) ?_
  refine c_pi (x := (-1 : Int32)) B hw (by omega) quX9_60 rfl (by omega) h0 dX9_init_343 (fun H locs hw => ?_)
  rw [hQm]
  exact c_ret hx hb hr hlk hw dX9_init_346
set_option maxRecDepth 20000 in
theorem qfX3_9 : mFl RX3 9 3 0 RX3 TX3 4 := ⟨rfl, by decide, rfl, mT_at 220 rfl rfl, inX_X3⟩
set_option maxRecDepth 20000 in
theorem quX3_9 : mPu RX3 9 3 0 RX3 TX3 4 tyX3 (tyX3 0) true := ⟨qfX3_9, tyX3_ok, nmX3, rfl, tyX3_ok 0 (by decide)⟩
set_option maxRecDepth 20000 in
theorem qfX3_15 : mFl RX3 15 3 1 RX3 TX3 4 := ⟨rfl, by decide, rfl, mT_at 222 rfl rfl, inX_X3⟩
set_option maxRecDepth 20000 in
theorem quX3_15 : mPu RX3 15 3 1 RX3 TX3 4 tyX3 (tyX3 1) true := ⟨qfX3_15, tyX3_ok, nmX3, rfl, tyX3_ok 1 (by decide)⟩
set_option maxRecDepth 20000 in
theorem qfX3_18 : mFl RX3 18 3 2 RX3 TX3 4 := ⟨rfl, by decide, rfl, mT_at 224 rfl rfl, inX_X3⟩
set_option maxRecDepth 20000 in
theorem quX3_18 : mPu RX3 18 3 2 RX3 TX3 4 tyX3 (tyX3 2) true := ⟨qfX3_18, tyX3_ok, nmX3, rfl, tyX3_ok 2 (by decide)⟩
set_option maxRecDepth 20000 in
theorem qfX3_21 : mFl RX3 21 3 3 RX3 TX3 4 := ⟨rfl, by decide, rfl, mT_at 226 rfl rfl, inX_X3⟩
set_option maxRecDepth 20000 in
theorem quX3_21 : mPu RX3 21 3 3 RX3 TX3 4 tyX3 (tyX3 3) true := ⟨qfX3_21, tyX3_ok, nmX3, rfl, tyX3_ok 3 (by decide)⟩
def iK3 (a : Nat) (I : mI) : mI := I
def rK3 (a : Nat) (R : mR) : mR := (mup (mup (mup (mup R a 0 (some (a + 1))) a 1 (some (a + 2))) a 2 (some (a + 3))) a 3 (some (a + 4)))
set_option maxRecDepth 20000 in
theorem vr_X3 : mCV RX3 24 RX3 yX3_reset cX3_reset 2 none 0 := ⟨mT_at 216 rfl rfl, mT_at 217 rfl rfl, mT_at 218 rfl rfl, mT_at 9 rfl rfl, mT_at 219 rfl rfl, rfl, by decide, by decide, by decide +kernel⟩
theorem x_resetK {K : mK} {R : mR} {L : Nat} (l0 : K L = (0, 3)) (l1 : K (L + 1) = (1, 4)) (l2 : K (L + 2) = (1, 4)) (l3 : K (L + 3) = (1, 10)) (l4 : K (L + 4) = (1, 4)) (r1 : R L 0 = some (L + 1)) (r2 : R L 1 = some (L + 2)) (r3 : R L 2 = some (L + 3)) (r4 : R L 3 = some (L + 4)) (I : mI) (J : mJ) : ∃ I1, f_X3_reset K L I J R = some I1 ∧ XL I1 L plN ∧ ∀ a k, ¬ (L + 1 ≤ a ∧ a ≤ L + 4) → I1 a k = I a k := by
  have L24 : ∀ (I : mI) (N j : Nat), j ≤ 4 → 4 - j < N → f_X3_reset_L24 K L J R N (nI j) (rowU I (L + 2) 0 j (fun _ => 5)) = some (rowU I (L + 2) 0 4 (fun _ => 5)) := by
    intro I N
    induction N with
    | zero => intro j h1 h2; omega
    | succ N ih =>
      intro j h1 h2
      rw [f_X3_reset_L24]
      by_cases e : j = 4
      · subst e; rw [if_pos (by decide)]
      · rw [if_neg (show ¬ (4 : Int32) ≤ nI j from nI_ge (show j < 4 by omega) (by decide)), if_pos l0, r2, Option.bind_some, if_pos (mx j l2 (by omega) (by decide)), Option.bind_some, nI_c (by omega), rowU_s (Nat.zero_le j) rfl, nI_s1]
        exact ih (j + 1) (by omega) (by omega)
  have L44 : ∀ (I : mI) (N j : Nat), 1 ≤ j → j ≤ 10 → 10 - j < N → f_X3_reset_L44 K L J R N (nI j) (rowU I (L + 3) 1 j (fun _ => 3)) = some (rowU I (L + 3) 1 10 (fun _ => 3)) := by
    intro I N
    induction N with
    | zero => intro j h0 h1 h2; omega
    | succ N ih =>
      intro j h0 h1 h2
      rw [f_X3_reset_L44]
      by_cases e : j = 10
      · subst e; rw [if_pos (by decide)]
      · rw [if_neg (show ¬ (9 : Int32) < nI j from fun q => by have := (nI_lti (show 9 < 2 ^ 31 by decide) (show j < 2 ^ 31 by omega)).mp q; omega), if_pos l0, r3, Option.bind_some, if_pos (mx j l3 (by omega) (by decide)), Option.bind_some, nI_c (by omega), rowU_s h0 rfl, nI_s1]
        exact ih (j + 1) (by omega) (by omega) (by omega)
  have q24 := L24 (mup (mup (mup I (L + 1) 1 1) (L + 1) 2 4) (L + 1) 3 6) 8192 0 (by decide) (by decide)
  rw [rowU_0] at q24
  have q44 := L44 (rowU (mup (mup (mup I (L + 1) 1 1) (L + 1) 2 4) (L + 1) 3 6) (L + 2) 0 4 (fun _ => 5)) 8192 1 (by decide) (by decide) (by decide)
  rw [rowU_0] at q44
  have c2 : ((2 : Int32)).toNatClampNeg = 2 := rfl
  have c3 : ((3 : Int32)).toNatClampNeg = 3 := rfl
  have i1 : ∀ {a : Nat}, K a = (1, 4) → mIx K a 1 (1 : Int32) := fun h => mx 1 h (by decide) (by decide)
  have i2 : ∀ {a : Nat}, K a = (1, 4) → mIx K a 1 (2 : Int32) := fun h => mx 2 h (by decide) (by decide)
  have i3 : ∀ {a : Nat}, K a = (1, 4) → mIx K a 1 (3 : Int32) := fun h => mx 3 h (by decide) (by decide)
  have i0 : ∀ {a : Nat}, K a = (1, 4) → mIx K a 1 (0 : Int32) := fun h => mx 0 h (by decide) (by decide)
  refine ⟨mup (mup (mup (mup (rowU (rowU (mup (mup (mup I (L + 1) 1 1) (L + 1) 2 4) (L + 1) 3 6) (L + 2) 0 4 (fun _ => 5)) (L + 3) 1 10 (fun _ => 3)) (L + 4) 0 2) (L + 4) 1 20) (L + 4) 2 5) (L + 4) 3 2, ?_, ⟨fun i a b => ?_, fun i a => ?_, fun i a b => ?_, fun i a => ?_⟩, fun a k n1 => ?_⟩
  · rw [f_X3_reset, if_pos l0, r1, Option.bind_some, if_pos (i1 l1), Option.bind_some, if_pos (i2 l1), Option.bind_some, if_pos (i3 l1), Option.bind_some, cl1, c2, c3, show f_X3_reset_L24 K L J R 8192 0 _ = _ from q24, Option.bind_some, show f_X3_reset_L44 K L J R 8192 1 _ = _ from q44, Option.bind_some, r4, Option.bind_some, if_pos (i0 l4), Option.bind_some, if_pos (i1 l4), Option.bind_some, if_pos (i2 l4), Option.bind_some, if_pos (i3 l4), Option.bind_some, sb_cl0]
  · rw [mup_ne _ _ (by omega), mup_ne _ _ (by omega), mup_ne _ _ (by omega), mup_ne _ _ (by omega), rowU_ne (by omega), rowU_ne (by omega)]
    rcases (show i = 1 ∨ i = 2 ∨ i = 3 by omega) with rfl | rfl | rfl
    · rw [mup_ne _ _ (by omega), mup_ne _ _ (by omega), mup_eq]; rfl
    · rw [mup_ne _ _ (by omega), mup_eq]; rfl
    · rw [mup_eq]; rfl
  · rw [mup_ne _ _ (by omega), mup_ne _ _ (by omega), mup_ne _ _ (by omega), mup_ne _ _ (by omega), rowU_ne (by omega), rowU_in (by omega) a]
    rcases (show i = 0 ∨ i = 1 ∨ i = 2 ∨ i = 3 by omega) with rfl | rfl | rfl | rfl <;> rfl
  · rw [mup_ne _ _ (by omega), mup_ne _ _ (by omega), mup_ne _ _ (by omega), mup_ne _ _ (by omega), rowU_in (by omega) (by omega)]
    have : ∀ i, 1 ≤ i → i ≤ 9 → (3 : Int32) = nI (plN (7 + i)) := by
      intro i a b
      rcases (show i = 1 ∨ i = 2 ∨ i = 3 ∨ i = 4 ∨ i = 5 ∨ i = 6 ∨ i = 7 ∨ i = 8 ∨ i = 9 by omega) with rfl | rfl | rfl | rfl | rfl | rfl | rfl | rfl | rfl <;> rfl
    exact this i a b
  · rcases (show i = 0 ∨ i = 1 ∨ i = 2 ∨ i = 3 by omega) with rfl | rfl | rfl | rfl
    · rw [mup_ne _ _ (by omega), mup_ne _ _ (by omega), mup_ne _ _ (by omega), mup_eq]; rfl
    · rw [mup_ne _ _ (by omega), mup_ne _ _ (by omega), mup_eq]; rfl
    · rw [mup_ne _ _ (by omega), mup_eq]; rfl
    · rw [mup_eq]; rfl
  · rw [mup_ne _ _ (by omega), mup_ne _ _ (by omega), mup_ne _ _ (by omega), mup_ne _ _ (by omega), rowU_ne (by omega), rowU_ne (by omega), mup_ne _ _ (by omega), mup_ne _ _ (by omega), mup_ne _ _ (by omega)]
set_option maxHeartbeats 4000000 in
set_option maxRecDepth 100000 in
theorem k_X3 (l : Launch) (g : mG) (K : mK) (b a : Nat) (hg : ∀ i, g.2.1 i = b + i) (I : mI) (J : mJ) (R : mR) (hf : fresh (a + 1) I J R) (h0 : K a = (0, 3)) (h1 : K (a + 1) = (1, 4)) (h2 : K (a + 2) = (1, 4)) (h3 : K (a + 3) = (1, 10)) (h4 : K (a + 4) = (1, 4)) : ∃ I1, XL I1 a plN ∧ (∀ i k, ¬ (a + 1 ≤ i ∧ i ≤ a + 4) → I1 i k = I i k) ∧ Met l yX3_init (mWs yX3_init cX3_init 1 none) ({ frames := 1, cells := 4, slots := 22, locals := 21 }) (va_Pc [.ref (g.2.1 a)] (cB g K b (a + 1) I J R)) (cQ g K b (a + 5) I1 J (rK3 a R)) 4 22 (up b) := by
  have e0 : rK3 a R a 0 = some (a + 1) := by unfold rK3; rw [mup_ne _ _ (by omega), mup_ne _ _ (by omega), mup_ne _ _ (by omega), mup_eq]
  have e1 : rK3 a R a 1 = some (a + 2) := by unfold rK3; rw [mup_ne _ _ (by omega), mup_ne _ _ (by omega), mup_eq]
  have e2 : rK3 a R a 2 = some (a + 3) := by unfold rK3; rw [mup_ne _ _ (by omega), mup_eq]
  have e3 : rK3 a R a 3 = some (a + 4) := by unfold rK3; rw [mup_eq]
  obtain ⟨I1, o1, o2, o3⟩ := x_resetK (K := kr K (a + 5)) (R := rK3 a R) (L := a) (by rw [kr_lt (by omega)]; exact h0) (by rw [kr_lt (by omega)]; exact h1) (by rw [kr_lt (by omega)]; exact h2) (by rw [kr_lt (by omega)]; exact h3) (by rw [kr_lt (by omega)]; exact h4) e0 e1 e2 e3 I J
  refine ⟨I1, o2, o3, ?_⟩
  refine cStart RX3 hg hf (by decide) rfl rfl (Nat.le_of_ble_eq_true rfl) ?_
  intro p e s m below meth c ls Qm hQm B hr hlk hmn hs hw hl
  have hx := B.1.1
  have hb := B.1.2.1
  refine lv_aload_n hx hb dX3_init_0 rfl (lv_at hl 0 rfl) ?_
  refine c_obj B hl.1 (mT_at 215 rfl rfl) (Nat.le_of_ble_eq_true rfl) (Nat.le_of_ble_eq_true rfl) dX3_init_1 ?_
  refine lv_aload_n hx hb dX3_init_4 rfl (lv_at hl 0 rfl) ?_
  refine lv_iconst (v := (4 : Int32)) hx hb dX3_init_5 (by decide) ?_
  refine c_newI B hw (N := 4) h1 rfl (by decide) (by decide) (Nat.le_of_ble_eq_true rfl) (Nat.le_of_ble_eq_true rfl) dX3_init_6 (fun H hw => ?_)
  refine c_prF (x := (a + 1)) B hw (by omega) quX3_9 rfl hmn rfl (by omega) h0 rfl rfl dX3_init_8 (fun H locs hw => ?_)
  refine lv_aload_n hx hb dX3_init_11 rfl (lv_at hl 0 rfl) ?_
  refine lv_iconst (v := (4 : Int32)) hx hb dX3_init_12 (by decide) ?_
  refine c_newI B hw (N := 4) h2 rfl (by decide) (by decide) (Nat.le_of_ble_eq_true rfl) (Nat.le_of_ble_eq_true rfl) dX3_init_13 (fun H hw => ?_)
  refine c_prF (x := (a + 2)) B hw (by omega) quX3_15 rfl hmn rfl (by omega) h0 rfl rfl dX3_init_15 (fun H locs hw => ?_)
  refine lv_aload_n hx hb dX3_init_18 rfl (lv_at hl 0 rfl) ?_
  refine lv_bipush (v := (10 : Int32)) hx hb dX3_init_19 (by decide) ?_
  refine c_newI B hw (N := 10) h3 rfl (by decide) (by decide) (Nat.le_of_ble_eq_true rfl) (Nat.le_of_ble_eq_true rfl) dX3_init_21 (fun H hw => ?_)
  refine c_prF (x := (a + 3)) B hw (by omega) quX3_18 rfl hmn rfl (by omega) h0 rfl rfl dX3_init_23 (fun H locs hw => ?_)
  refine lv_aload_n hx hb dX3_init_26 rfl (lv_at hl 0 rfl) ?_
  refine lv_iconst (v := (4 : Int32)) hx hb dX3_init_27 (by decide) ?_
  refine c_newI B hw (N := 4) h4 rfl (by decide) (by decide) (Nat.le_of_ble_eq_true rfl) (Nat.le_of_ble_eq_true rfl) dX3_init_28 (fun H hw => ?_)
  refine c_prF (x := (a + 4)) B hw (by omega) quX3_21 rfl hmn rfl (by omega) h0 rfl rfl dX3_init_30 (fun H locs hw => ?_)
  refine lv_aload_n hx hb dX3_init_33 rfl (lv_at hl 0 rfl) ?_
  have hw : cHp g K b (a + 5) s I J (rK3 a R) H locs := hw
  have hfr : fresh (a + 5) I1 J (rK3 a R) := fun i k hi => ⟨by rw [o3 i k (by omega)]; exact (hw.2.2.2 i k hi).1, (hw.2.2.2 i k hi).2⟩
  refine c_callV (ci := 3) B hw vr_X3 rfl h0 (by omega) (r_X3_reset l g (kr K (a + 5)) (a + 5) (mInj_up hg) (kr_ok K (a + 5)) a I J (rK3 a R) I1 o1) ⟨rfl, rfl, Nat.le_of_ble_eq_true rfl, Nat.le_of_ble_eq_true rfl⟩ (by omega) hfr hl.1 (Nat.le_of_ble_eq_true rfl) ⟨Nat.le_of_ble_eq_true rfl, Nat.le_of_ble_eq_true rfl⟩ dX3_init_34 (fun H locs hw => ?_)
  rw [hQm]
  exact c_ret hx hb hr hlk hw dX3_init_37
