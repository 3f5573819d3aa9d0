theorem fresh.row {n : Nat} {I : mI} {J : mJ} {R : mR} (h : fresh n I J R) {a lo hi : Nat} {f : Nat → Option Nat} (ha : a < n) : fresh n I J (rowU R a lo hi f) := fun i j hi => ⟨(h i j hi).1, (h i j hi).2.1, by rw [rowU_ne (by omega)]; exact (h i j hi).2.2⟩
theorem fresh.k6 {a : Nat} {I : mI} {J : mJ} {R : mR} (h : fresh (a + 1) I J R) : fresh (a + 3) (iK6 a I) J (rK6 a R) := ((h.le (show a + 1 ≤ a + 3 by omega)).uR (k := 0) (by omega) (some (a + 1))).uR (k := 1) (by omega) (some (a + 2))
theorem fresh.k7 {a : Nat} {I : mI} {J : mJ} {R : mR} (h : fresh (a + 1) I J R) : fresh (a + 2) (iK7 a I) J (rK7 a R) := (h.le (show a + 1 ≤ a + 2 by omega)).uR (k := 0) (by omega) (some (a + 1))
theorem fresh.k5 {a : Nat} {I : mI} {J : mJ} {R : mR} (h : fresh (a + 1) I J R) : fresh (a + 2) (iK5 a I) J (rK5 a R) := ((h.le (show a + 1 ≤ a + 2 by omega)).uR (k := 0) (by omega) (some (a + 1))).uI (k := 4) (by omega) (-1)
theorem fresh.k4 {a : Nat} {I : mI} {J : mJ} {R : mR} (h : fresh (a + 1) I J R) : fresh (a + 35) (iK4 a I) J (rK4 a R) := (((((((((((h.le (show a + 1 ≤ a + 35 by omega)).row (lo := 0) (hi := 12) (f := fun i => some ((a + 1) + 1 + i)) (by omega)).uR (k := 0) (by omega) (some (a + 1))).uR (k := 1) (by omega) (some (a + 14))).row (lo := 0) (hi := 13) (f := fun i => some ((a + 15) + 1 + i)) (by omega)).uR (k := 3) (by omega) (some (a + 15))).uR (k := 4) (by omega) (some (a + 29))).uR (k := 5) (by omega) (some (a + 30))).uR (k := 6) (by omega) (some (a + 31))).uR (k := 7) (by omega) (some (a + 32))).uR (k := 8) (by omega) (some (a + 33))).uR (k := 9) (by omega) (some (a + 34))
theorem fresh.k3 {a : Nat} {I : mI} {J : mJ} {R : mR} (h : fresh (a + 1) I J R) : fresh (a + 5) (iK3 a I) J (rK3 a R) := ((((h.le (show a + 1 ≤ a + 5 by omega)).uR (k := 0) (by omega) (some (a + 1))).uR (k := 1) (by omega) (some (a + 2))).uR (k := 2) (by omega) (some (a + 3))).uR (k := 3) (by omega) (some (a + 4))
theorem fresh.k0 {a : Nat} {I : mI} {J : mJ} {R : mR} (h : fresh (a + 1) I J R) : fresh (a + 65) (iK0 a I 12) J (rK0 a R) := fun i k hi => ⟨by unfold iK0; rw [rowU_ne (by omega), rowU_ne (by omega), iK2_ne (by omega)]; exact (h i k (by omega)).1, (h i k (by omega)).2.1, by unfold rK0; rw [mup_ne _ _ (by omega), mup_ne _ _ (by omega), mup_ne _ _ (by omega), rK2_ne (by omega)]; exact (h i k (by omega)).2.2⟩
theorem fresh.k1a {a : Nat} {I : mI} {J : mJ} {R : mR} (h : fresh (a + 1) I J R) : fresh (a + 5) (iK1 a I) J (rK1 a R) := (h.k1 (by omega)).le (by omega)
def zI : mI := fun _ _ => 0
def zJ : mJ := fun _ _ => 0
def zR : mR := fun _ _ => none
set_option maxRecDepth 20000 in
theorem vnX8_7 : Cond.classLink RX8 7 RX2 ∈ mT ∧ Cond.instantiable RX2 2 ∈ mT ∧ Cond.initialized RX2 ∈ mT := ⟨mT_at 24 rfl rfl, mT_at 25 rfl rfl, mT_at 2 rfl rfl⟩
set_option maxRecDepth 20000 in
theorem viX8_9 : Cond.methodLink RX8 9 yX2_init ∈ mT ∧ Cond.instanceMethod yX2_init ∈ mT ∧ Cond.initialized yX2_init.cls ∈ mT ∧ Cond.code yX2_init cX2_init 2 none ∈ mT ∧ yX2_init.name = "<init>" ∧ (yX2_init.cls ≠ "java/lang/invoke/MethodHandle" ∧ yX2_init.cls ≠ "java/lang/invoke/VarHandle" ∧ (parseMethodDescriptor yX2_init.desc).map (fun d => d.parameters.length) = some 0) := ⟨mT_at 26 rfl rfl, mT_at 27 rfl rfl, mT_at 2 rfl rfl, mT_at 28 rfl rfl, rfl, by decide, by decide, by decide +kernel⟩
set_option maxRecDepth 20000 in
theorem qfX8_10 : mFl RX8 10 8 0 RX8 TX8 10 := ⟨rfl, by decide, rfl, mT_at 238 rfl rfl, inX_X8⟩
set_option maxRecDepth 20000 in
theorem quX8_10 : mPu RX8 10 8 0 RX8 TX8 10 tyX8 (tyX8 0) true := ⟨qfX8_10, tyX8_ok, nmX8, rfl, tyX8_ok 0 (by decide)⟩
set_option maxRecDepth 20000 in
theorem vnX8_16 : Cond.classLink RX8 16 RX0 ∈ mT ∧ Cond.instantiable RX0 3 ∈ mT ∧ Cond.initialized RX0 ∈ mT := ⟨mT_at 86 rfl rfl, mT_at 87 rfl rfl, mT_at 4 rfl rfl⟩
set_option maxRecDepth 20000 in
theorem viX8_18 : Cond.methodLink RX8 18 yX0_init ∈ mT ∧ Cond.instanceMethod yX0_init ∈ mT ∧ Cond.initialized yX0_init.cls ∈ mT ∧ Cond.code yX0_init cX0_init 2 none ∈ mT ∧ yX0_init.name = "<init>" ∧ (yX0_init.cls ≠ "java/lang/invoke/MethodHandle" ∧ yX0_init.cls ≠ "java/lang/invoke/VarHandle" ∧ (parseMethodDescriptor yX0_init.desc).map (fun d => d.parameters.length) = some 0) := ⟨mT_at 88 rfl rfl, mT_at 89 rfl rfl, mT_at 4 rfl rfl, mT_at 90 rfl rfl, rfl, by decide, by decide, by decide +kernel⟩
set_option maxRecDepth 20000 in
theorem qfX8_19 : mFl RX8 19 8 1 RX8 TX8 10 := ⟨rfl, by decide, rfl, mT_at 239 rfl rfl, inX_X8⟩
set_option maxRecDepth 20000 in
theorem quX8_19 : mPu RX8 19 8 1 RX8 TX8 10 tyX8 (tyX8 1) true := ⟨qfX8_19, tyX8_ok, nmX8, rfl, tyX8_ok 1 (by decide)⟩
set_option maxRecDepth 20000 in
theorem vnX8_23 : Cond.classLink RX8 23 RX6 ∈ mT ∧ Cond.instantiable RX6 3 ∈ mT ∧ Cond.initialized RX6 ∈ mT := ⟨mT_at 106 rfl rfl, mT_at 107 rfl rfl, mT_at 5 rfl rfl⟩
set_option maxRecDepth 20000 in
theorem viX8_25 : Cond.methodLink RX8 25 yX6_init ∈ mT ∧ Cond.instanceMethod yX6_init ∈ mT ∧ Cond.initialized yX6_init.cls ∈ mT ∧ Cond.code yX6_init cX6_init 1 none ∈ mT ∧ yX6_init.name = "<init>" ∧ (yX6_init.cls ≠ "java/lang/invoke/MethodHandle" ∧ yX6_init.cls ≠ "java/lang/invoke/VarHandle" ∧ (parseMethodDescriptor yX6_init.desc).map (fun d => d.parameters.length) = some 0) := ⟨mT_at 108 rfl rfl, mT_at 109 rfl rfl, mT_at 5 rfl rfl, mT_at 110 rfl rfl, rfl, by decide, by decide, by decide +kernel⟩
set_option maxRecDepth 20000 in
theorem qfX8_26 : mFl RX8 26 8 2 RX8 TX8 10 := ⟨rfl, by decide, rfl, mT_at 240 rfl rfl, inX_X8⟩
set_option maxRecDepth 20000 in
theorem quX8_26 : mPu RX8 26 8 2 RX8 TX8 10 tyX8 (tyX8 2) true := ⟨qfX8_26, tyX8_ok, nmX8, rfl, tyX8_ok 2 (by decide)⟩
set_option maxRecDepth 20000 in
theorem vnX8_30 : Cond.classLink RX8 30 RX4 ∈ mT ∧ Cond.instantiable RX4 10 ∈ mT ∧ Cond.initialized RX4 ∈ mT := ⟨mT_at 123 rfl rfl, mT_at 124 rfl rfl, mT_at 6 rfl rfl⟩
set_option maxRecDepth 20000 in
theorem viX8_32 : Cond.methodLink RX8 32 yX4_init ∈ mT ∧ Cond.instanceMethod yX4_init ∈ mT ∧ Cond.initialized yX4_init.cls ∈ mT ∧ Cond.code yX4_init cX4_init 1 none ∈ mT ∧ yX4_init.name = "<init>" ∧ (yX4_init.cls ≠ "java/lang/invoke/MethodHandle" ∧ yX4_init.cls ≠ "java/lang/invoke/VarHandle" ∧ (parseMethodDescriptor yX4_init.desc).map (fun d => d.parameters.length) = some 0) := ⟨mT_at 125 rfl rfl, mT_at 126 rfl rfl, mT_at 6 rfl rfl, mT_at 127 rfl rfl, rfl, by decide, by decide, by decide +kernel⟩
set_option maxRecDepth 20000 in
theorem qfX8_33 : mFl RX8 33 8 3 RX8 TX8 10 := ⟨rfl, by decide, rfl, mT_at 241 rfl rfl, inX_X8⟩
set_option maxRecDepth 20000 in
theorem quX8_33 : mPu RX8 33 8 3 RX8 TX8 10 tyX8 (tyX8 3) true := ⟨qfX8_33, tyX8_ok, nmX8, rfl, tyX8_ok 3 (by decide)⟩
set_option maxRecDepth 20000 in
theorem vnX8_37 : Cond.classLink RX8 37 RX7 ∈ mT ∧ Cond.instantiable RX7 2 ∈ mT ∧ Cond.initialized RX7 ∈ mT := ⟨mT_at 169 rfl rfl, mT_at 170 rfl rfl, mT_at 7 rfl rfl⟩
set_option maxRecDepth 20000 in
theorem viX8_39 : Cond.methodLink RX8 39 yX7_init ∈ mT ∧ Cond.instanceMethod yX7_init ∈ mT ∧ Cond.initialized yX7_init.cls ∈ mT ∧ Cond.code yX7_init cX7_init 1 none ∈ mT ∧ yX7_init.name = "<init>" ∧ (yX7_init.cls ≠ "java/lang/invoke/MethodHandle" ∧ yX7_init.cls ≠ "java/lang/invoke/VarHandle" ∧ (parseMethodDescriptor yX7_init.desc).map (fun d => d.parameters.length) = some 0) := ⟨mT_at 171 rfl rfl, mT_at 172 rfl rfl, mT_at 7 rfl rfl, mT_at 173 rfl rfl, rfl, by decide, by decide, by decide +kernel⟩
set_option maxRecDepth 20000 in
theorem qfX8_40 : mFl RX8 40 8 4 RX8 TX8 10 := ⟨rfl, by decide, rfl, mT_at 242 rfl rfl, inX_X8⟩
set_option maxRecDepth 20000 in
theorem quX8_40 : mPu RX8 40 8 4 RX8 TX8 10 tyX8 (tyX8 4) true := ⟨qfX8_40, tyX8_ok, nmX8, rfl, tyX8_ok 4 (by decide)⟩
set_option maxRecDepth 20000 in
theorem vnX8_44 : Cond.classLink RX8 44 RX5 ∈ mT ∧ Cond.instantiable RX5 5 ∈ mT ∧ Cond.initialized RX5 ∈ mT := ⟨mT_at 185 rfl rfl, mT_at 186 rfl rfl, mT_at 8 rfl rfl⟩
set_option maxRecDepth 20000 in
theorem viX8_46 : Cond.methodLink RX8 46 yX5_init ∈ mT ∧ Cond.instanceMethod yX5_init ∈ mT ∧ Cond.initialized yX5_init.cls ∈ mT ∧ Cond.code yX5_init cX5_init 1 none ∈ mT ∧ yX5_init.name = "<init>" ∧ (yX5_init.cls ≠ "java/lang/invoke/MethodHandle" ∧ yX5_init.cls ≠ "java/lang/invoke/VarHandle" ∧ (parseMethodDescriptor yX5_init.desc).map (fun d => d.parameters.length) = some 0) := ⟨mT_at 187 rfl rfl, mT_at 188 rfl rfl, mT_at 8 rfl rfl, mT_at 189 rfl rfl, rfl, by decide, by decide, by decide +kernel⟩
set_option maxRecDepth 20000 in
theorem qfX8_47 : mFl RX8 47 8 5 RX8 TX8 10 := ⟨rfl, by decide, rfl, mT_at 243 rfl rfl, inX_X8⟩
set_option maxRecDepth 20000 in
theorem quX8_47 : mPu RX8 47 8 5 RX8 TX8 10 tyX8 (tyX8 5) true := ⟨qfX8_47, tyX8_ok, nmX8, rfl, tyX8_ok 5 (by decide)⟩
set_option maxRecDepth 20000 in
theorem vnX8_51 : Cond.classLink RX8 51 RX1 ∈ mT ∧ Cond.instantiable RX1 8 ∈ mT ∧ Cond.initialized RX1 ∈ mT := ⟨mT_at 208 rfl rfl, mT_at 32 rfl rfl, mT_at 3 rfl rfl⟩
set_option maxRecDepth 20000 in
theorem viX8_53 : Cond.methodLink RX8 53 yX1_init ∈ mT ∧ Cond.instanceMethod yX1_init ∈ mT ∧ Cond.initialized yX1_init.cls ∈ mT ∧ Cond.code yX1_init cX1_init 1 none ∈ mT ∧ yX1_init.name = "<init>" ∧ (yX1_init.cls ≠ "java/lang/invoke/MethodHandle" ∧ yX1_init.cls ≠ "java/lang/invoke/VarHandle" ∧ (parseMethodDescriptor yX1_init.desc).map (fun d => d.parameters.length) = some 0) := ⟨mT_at 209 rfl rfl, mT_at 34 rfl rfl, mT_at 3 rfl rfl, mT_at 35 rfl rfl, rfl, by decide, by decide, by decide +kernel⟩
set_option maxRecDepth 20000 in
theorem qfX8_54 : mFl RX8 54 8 6 RX8 TX8 10 := ⟨rfl, by decide, rfl, mT_at 244 rfl rfl, inX_X8⟩
set_option maxRecDepth 20000 in
theorem quX8_54 : mPu RX8 54 8 6 RX8 TX8 10 tyX8 (tyX8 6) true := ⟨qfX8_54, tyX8_ok, nmX8, rfl, tyX8_ok 6 (by decide)⟩
set_option maxRecDepth 20000 in
theorem qfX8_58 : mFl RX8 58 8 7 RX8 TX8 10 := ⟨rfl, by decide, rfl, mT_at 245 rfl rfl, inX_X8⟩
set_option maxRecDepth 20000 in
theorem quX8_58 : mPu RX8 58 8 7 RX8 TX8 10 tyX8 (tyX8 7) true := ⟨qfX8_58, tyX8_ok, nmX8, rfl, tyX8_ok 7 (by decide)⟩
set_option maxRecDepth 20000 in
theorem vnX8_61 : Cond.classLink RX8 61 RX3 ∈ mT ∧ Cond.instantiable RX3 4 ∈ mT ∧ Cond.initialized RX3 ∈ mT := ⟨mT_at 210 rfl rfl, mT_at 211 rfl rfl, mT_at 9 rfl rfl⟩
set_option maxRecDepth 20000 in
theorem viX8_63 : Cond.methodLink RX8 63 yX3_init ∈ mT ∧ Cond.instanceMethod yX3_init ∈ mT ∧ Cond.initialized yX3_init.cls ∈ mT ∧ Cond.code yX3_init cX3_init 1 none ∈ mT ∧ yX3_init.name = "<init>" ∧ (yX3_init.cls ≠ "java/lang/invoke/MethodHandle" ∧ yX3_init.cls ≠ "java/lang/invoke/VarHandle" ∧ (parseMethodDescriptor yX3_init.desc).map (fun d => d.parameters.length) = some 0) := ⟨mT_at 212 rfl rfl, mT_at 213 rfl rfl, mT_at 9 rfl rfl, mT_at 214 rfl rfl, rfl, by decide, by decide, by decide +kernel⟩
set_option maxRecDepth 20000 in
theorem qfX8_64 : mFl RX8 64 8 8 RX8 TX8 10 := ⟨rfl, by decide, rfl, mT_at 246 rfl rfl, inX_X8⟩
set_option maxRecDepth 20000 in
theorem quX8_64 : mPu RX8 64 8 8 RX8 TX8 10 tyX8 (tyX8 8) false := ⟨qfX8_64, tyX8_ok, nmX8, rfl, tyX8_ok 8 (by decide)⟩
set_option maxRecDepth 20000 in
theorem qfX8_68 : mFl RX8 68 8 9 RX8 TX8 10 := ⟨rfl, by decide, rfl, mT_at 247 rfl rfl, inX_X8⟩
set_option maxRecDepth 20000 in
theorem quX8_68 : mPu RX8 68 8 9 RX8 TX8 10 tyX8 (tyX8 9) false := ⟨qfX8_68, tyX8_ok, nmX8, rfl, tyX8_ok 9 (by decide)⟩
def iF1 : mI := iK2 1 zI 12
def rF1 : mR := mup (rK2 1 zR 12) 0 0 (some 1)
def iF2 : mI := iK0 63 iF1 12
def rF2 : mR := mup (rK0 63 rF1) 0 1 (some 63)
def iF3 : mI := iK6 128 iF2
def rF3 : mR := mup (rK6 128 rF2) 0 2 (some 128)
def iF4 : mI := iK4 131 iF3
def rF4 : mR := mup (rK4 131 rF3) 0 3 (some 131)
def iF5 : mI := iK7 166 iF4
def rF5 : mR := mup (rK7 166 rF4) 0 4 (some 166)
def iF6 : mI := iK5 168 iF5
def rF6 : mR := mup (rK5 168 rF5) 0 5 (some 168)
def iF7 : mI := iK1 170 iF6
def rF7 : mR := mup (rK1 170 rF6) 0 6 (some 170)
def iF8 : mI := iK1 175 iF7
def rF8 : mR := mup (rK1 175 rF7) 0 7 (some 175)
def rF9 : mR := mup (rK3 180 rF8) 0 8 (some 180)
def rF10 : mR := mup (rK3 185 rF9) 0 9 (some 185)
set_option maxRecDepth 20000 in
theorem kX_card0 : ∀ j, j < 12 → kX (1 + 2 + 5 * j) = (0, 1) ∧ kX (1 + 2 + 5 * j + 1) = (1, 8) ∧ kX (1 + 2 + 5 * j + 2) = (1, 4) ∧ kX (1 + 2 + 5 * j + 3) = (1, 3) ∧ kX (1 + 2 + 5 * j + 4) = (1, 3) := by decide +kernel
set_option maxRecDepth 20000 in
theorem kX_card1 : ∀ j, j < 12 → kX (63 + 1 + 2 + 5 * j) = (0, 1) ∧ kX (63 + 1 + 2 + 5 * j + 1) = (1, 8) ∧ kX (63 + 1 + 2 + 5 * j + 2) = (1, 4) ∧ kX (63 + 1 + 2 + 5 * j + 3) = (1, 3) ∧ kX (63 + 1 + 2 + 5 * j + 4) = (1, 3) := by decide +kernel
set_option maxRecDepth 20000 in
theorem kX_g1 : ∀ i, i < 12 → kX (131 + 1 + 1 + i) = (1, 12) := by decide +kernel
set_option maxRecDepth 20000 in
theorem kX_g2 : ∀ i, i < 13 → kX (131 + 15 + 1 + i) = (4, 13) := by decide +kernel
theorem fF0 : fresh 1 zI zJ zR := fun _ _ _ => ⟨rfl, rfl, rfl⟩
theorem fF1 : fresh 63 iF1 zJ rF1 := ((fF0.le (show 1 ≤ 1 + 1 by omega)).k2).uR (by omega) (some 1)
theorem fF2 : fresh 128 iF2 zJ rF2 := ((fF1.le (show 63 ≤ 63 + 1 by omega)).k0).uR (by omega) (some 63)
theorem fF3 : fresh 131 iF3 zJ rF3 := ((fF2.le (show 128 ≤ 128 + 1 by omega)).k6).uR (by omega) (some 128)
theorem fF4 : fresh 166 iF4 zJ rF4 := ((fF3.le (show 131 ≤ 131 + 1 by omega)).k4).uR (by omega) (some 131)
theorem fF5 : fresh 168 iF5 zJ rF5 := ((fF4.le (show 166 ≤ 166 + 1 by omega)).k7).uR (by omega) (some 166)
theorem fF6 : fresh 170 iF6 zJ rF6 := ((fF5.le (show 168 ≤ 168 + 1 by omega)).k5).uR (by omega) (some 168)
theorem fF7 : fresh 175 iF7 zJ rF7 := ((fF6.le (show 170 ≤ 170 + 1 by omega)).k1a).uR (by omega) (some 170)
theorem fF8 : fresh 180 iF8 zJ rF8 := ((fF7.le (show 175 ≤ 175 + 1 by omega)).k1a).uR (by omega) (some 175)
set_option maxHeartbeats 8000000 in
set_option maxRecDepth 100000 in
theorem k_X8 (l : Launch) (g : mG) (b : Nat) (hg : ∀ i, g.2.1 i = b + i) : ∃ I1 : mI, XL I1 180 plN ∧ (∀ i k, i < 180 → I1 i k = iF8 i k) ∧ fresh 190 I1 zJ rF10 ∧ Met l yX8_init (mWs yX8_init cX8_init 1 none) ({ frames := 4, cells := 189, slots := 1851, locals := 82 } : Room) (va_Pc [.ref (g.2.1 0)] (cB g kX b 1 zI zJ zR)) (cQ g kX b 190 I1 zJ rF10) 189 1851 (up b) := by
  have F1 : fresh (180 + 1) iF8 zJ rF8 := fF8.le (by omega)
  obtain ⟨I1, x1, y1, M1⟩ := k_X3 l g kX b 180 hg iF8 zJ rF8 F1 rfl rfl rfl rfl rfl
  have FF1 : fresh (180 + 5) I1 zJ (rK3 180 rF8) := fun i k hi => ⟨by rw [y1 i k (by omega)]; exact (F1 i k (by omega)).1, rfl, (F1.k3 i k hi).2.2⟩
  have F2 : fresh (185 + 1) I1 zJ rF9 := (FF1.uR (by omega) (some 180)).le (by omega)
  obtain ⟨I2, x2, y2, M2⟩ := k_X3 l g kX b 185 hg I1 zJ rF9 F2 rfl rfl rfl rfl rfl
  have FF2 : fresh (185 + 5) I2 zJ (rK3 185 rF9) := fun i k hi => ⟨by rw [y2 i k (by omega)]; exact (F2 i k (by omega)).1, rfl, (F2.k3 i k hi).2.2⟩
  refine ⟨I2, ⟨fun i a b => by rw [y2 _ _ (by omega)]; exact x1.1 i a b, fun i a => by rw [y2 _ _ (by omega)]; exact x1.2.1 i a, fun i a b => by rw [y2 _ _ (by omega)]; exact x1.2.2.1 i a b, fun i a => by rw [y2 _ _ (by omega)]; exact x1.2.2.2 i a⟩, fun i k hi => by rw [y2 i k (by omega), y1 i k (by omega)], FF2.uR (by omega) (some 185), ?_⟩
  refine cStart RX8 hg fF0 (by decide) rfl rfl (Nat.le_of_ble_eq_true rfl) ?_
  intro p e s m below meth c ls Qm hQm B hr hlk hmn hs hw hl
  have hx := B.1.1
  have hb := B.1.2.1
  refine lv_aload_n hx hb dX8_init_0 rfl (lv_at hl 0 rfl) ?_
  refine c_obj B hl.1 (mT_at 21 rfl rfl) (Nat.le_of_ble_eq_true rfl) (Nat.le_of_ble_eq_true rfl) dX8_init_1 ?_
  refine lv_aload_n hx hb dX8_init_4 rfl (lv_at hl 0 rfl) ?_
  refine c_new (ci := 2) B hw (show kX 1 = (0, 2) from rfl) rfl inX_X2 tyX2_ok rfl dfX2 vnX8_7 (Nat.le_of_ble_eq_true rfl) (Nat.le_of_ble_eq_true rfl) dX8_init_5 (fun H hw => ?_)
  refine lv_dup hx hb dX8_init_8 rfl ?_
  refine c_call (n' := 63) B hw viX8_9 (k_X2 l g kX b 1 hg zI zJ zR hw.2.2.2 rfl rfl kX_card0) ⟨rfl, rfl, Nat.le_of_ble_eq_true rfl, Nat.le_of_ble_eq_true rfl⟩ (by omega) (by omega) hw.2.2.2.k2 hl.1 (Nat.le_of_ble_eq_true rfl) ⟨Nat.le_of_ble_eq_true rfl, Nat.le_of_ble_eq_true rfl⟩ dX8_init_9 (fun H locs hw => ?_)
  refine c_prF (x := 1) B hw (by omega) quX8_10 rfl hmn rfl (by omega) q0 rfl rfl dX8_init_12 (fun H locs hw => ?_)
  have hw : cHp g kX b 63 s iF1 zJ rF1 H locs := hw
  refine lv_aload_n hx hb dX8_init_15 rfl (lv_at hl 0 rfl) ?_
  refine c_new (ci := 0) B hw (show kX 63 = (0, 0) from rfl) rfl inX_X0 tyX0_ok rfl dfX0 vnX8_16 (Nat.le_of_ble_eq_true rfl) (Nat.le_of_ble_eq_true rfl) dX8_init_16 (fun H hw => ?_)
  refine lv_dup hx hb dX8_init_19 rfl ?_
  refine c_call (n' := 128) B hw viX8_18 (k_X0 l g kX b 63 hg iF1 zJ rF1 hw.2.2.2 rfl rfl rfl kX_card1 rfl rfl) ⟨rfl, rfl, Nat.le_of_ble_eq_true rfl, Nat.le_of_ble_eq_true rfl⟩ (by omega) (by omega) hw.2.2.2.k0 hl.1 (Nat.le_of_ble_eq_true rfl) ⟨Nat.le_of_ble_eq_true rfl, Nat.le_of_ble_eq_true rfl⟩ dX8_init_20 (fun H locs hw => ?_)
  refine c_prF (x := 63) B hw (by omega) quX8_19 rfl hmn rfl (by omega) q0 rfl rfl dX8_init_23 (fun H locs hw => ?_)
  have hw : cHp g kX b 128 s iF2 zJ rF2 H locs := hw
  refine lv_aload_n hx hb dX8_init_26 rfl (lv_at hl 0 rfl) ?_
  refine c_new (ci := 6) B hw (show kX 128 = (0, 6) from rfl) rfl inX_X6 tyX6_ok rfl dfX6 vnX8_23 (Nat.le_of_ble_eq_true rfl) (Nat.le_of_ble_eq_true rfl) dX8_init_27 (fun H hw => ?_)
  refine lv_dup hx hb dX8_init_30 rfl ?_
  refine c_call (n' := 131) B hw viX8_25 (k_X6 l g kX b 128 hg iF2 zJ rF2 hw.2.2.2 rfl rfl rfl) ⟨rfl, rfl, Nat.le_of_ble_eq_true rfl, Nat.le_of_ble_eq_true rfl⟩ (by omega) (by omega) hw.2.2.2.k6 hl.1 (Nat.le_of_ble_eq_true rfl) ⟨Nat.le_of_ble_eq_true rfl, Nat.le_of_ble_eq_true rfl⟩ dX8_init_31 (fun H locs hw => ?_)
  refine c_prF (x := 128) B hw (by omega) quX8_26 rfl hmn rfl (by omega) q0 rfl rfl dX8_init_34 (fun H locs hw => ?_)
  have hw : cHp g kX b 131 s iF3 zJ rF3 H locs := hw
  refine lv_aload_n hx hb dX8_init_37 rfl (lv_at hl 0 rfl) ?_
  refine c_new (ci := 4) B hw (show kX 131 = (0, 4) from rfl) rfl inX_X4 tyX4_ok rfl dfX4 vnX8_30 (Nat.le_of_ble_eq_true rfl) (Nat.le_of_ble_eq_true rfl) dX8_init_38 (fun H hw => ?_)
  refine lv_dup hx hb dX8_init_41 rfl ?_
  refine c_call (n' := 166) B hw viX8_32 (k_X4 l g kX b 131 hg iF3 zJ rF3 hw.2.2.2 rfl rfl rfl rfl rfl rfl rfl rfl rfl rfl kX_g1 kX_g2) ⟨rfl, rfl, Nat.le_of_ble_eq_true rfl, Nat.le_of_ble_eq_true rfl⟩ (by omega) (by omega) hw.2.2.2.k4 hl.1 (Nat.le_of_ble_eq_true rfl) ⟨Nat.le_of_ble_eq_true rfl, Nat.le_of_ble_eq_true rfl⟩ dX8_init_42 (fun H locs hw => ?_)
  refine c_prF (x := 131) B hw (by omega) quX8_33 rfl hmn rfl (by omega) q0 rfl rfl dX8_init_45 (fun H locs hw => ?_)
  have hw : cHp g kX b 166 s iF4 zJ rF4 H locs := hw
  refine lv_aload_n hx hb dX8_init_48 rfl (lv_at hl 0 rfl) ?_
  refine c_new (ci := 7) B hw (show kX 166 = (0, 7) from rfl) rfl inX_X7 tyX7_ok rfl dfX7 vnX8_37 (Nat.le_of_ble_eq_true rfl) (Nat.le_of_ble_eq_true rfl) dX8_init_49 (fun H hw => ?_)
  refine lv_dup hx hb dX8_init_52 rfl ?_
  refine c_call (n' := 168) B hw viX8_39 (k_X7 l g kX b 166 hg iF4 zJ rF4 hw.2.2.2 rfl rfl) ⟨rfl, rfl, Nat.le_of_ble_eq_true rfl, Nat.le_of_ble_eq_true rfl⟩ (by omega) (by omega) hw.2.2.2.k7 hl.1 (Nat.le_of_ble_eq_true rfl) ⟨Nat.le_of_ble_eq_true rfl, Nat.le_of_ble_eq_true rfl⟩ dX8_init_53 (fun H locs hw => ?_)
  refine c_prF (x := 166) B hw (by omega) quX8_40 rfl hmn rfl (by omega) q0 rfl rfl dX8_init_56 (fun H locs hw => ?_)
  have hw : cHp g kX b 168 s iF5 zJ rF5 H locs := hw
  refine lv_aload_n hx hb dX8_init_59 rfl (lv_at hl 0 rfl) ?_
  refine c_new (ci := 5) B hw (show kX 168 = (0, 5) from rfl) rfl inX_X5 tyX5_ok rfl dfX5 vnX8_44 (Nat.le_of_ble_eq_true rfl) (Nat.le_of_ble_eq_true rfl) dX8_init_60 (fun H hw => ?_)
  refine lv_dup hx hb dX8_init_63 rfl ?_
  refine c_call (n' := 170) B hw viX8_46 (k_X5 l g kX b 168 hg iF5 zJ rF5 hw.2.2.2 rfl rfl) ⟨rfl, rfl, Nat.le_of_ble_eq_true rfl, Nat.le_of_ble_eq_true rfl⟩ (by omega) (by omega) hw.2.2.2.k5 hl.1 (Nat.le_of_ble_eq_true rfl) ⟨Nat.le_of_ble_eq_true rfl, Nat.le_of_ble_eq_true rfl⟩ dX8_init_64 (fun H locs hw => ?_)
  refine c_prF (x := 168) B hw (by omega) quX8_47 rfl hmn rfl (by omega) q0 rfl rfl dX8_init_67 (fun H locs hw => ?_)
  have hw : cHp g kX b 170 s iF6 zJ rF6 H locs := hw
  refine lv_aload_n hx hb dX8_init_70 rfl (lv_at hl 0 rfl) ?_
  refine c_new (ci := 1) B hw (show kX 170 = (0, 1) from rfl) rfl inX_X1 tyX1_ok rfl dfX1 vnX8_51 (Nat.le_of_ble_eq_true rfl) (Nat.le_of_ble_eq_true rfl) dX8_init_71 (fun H hw => ?_)
  refine lv_dup hx hb dX8_init_74 rfl ?_
  refine c_call (n' := 175) B hw viX8_53 (k_X1 l g kX b 170 hg iF6 zJ rF6 hw.2.2.2 rfl rfl rfl rfl rfl) ⟨rfl, rfl, Nat.le_of_ble_eq_true rfl, Nat.le_of_ble_eq_true rfl⟩ (by omega) (by omega) hw.2.2.2.k1a hl.1 (Nat.le_of_ble_eq_true rfl) ⟨Nat.le_of_ble_eq_true rfl, Nat.le_of_ble_eq_true rfl⟩ dX8_init_75 (fun H locs hw => ?_)
  refine c_prF (x := 170) B hw (by omega) quX8_54 rfl hmn rfl (by omega) q0 rfl rfl dX8_init_78 (fun H locs hw => ?_)
  have hw : cHp g kX b 175 s iF7 zJ rF7 H locs := hw
  refine lv_aload_n hx hb dX8_init_81 rfl (lv_at hl 0 rfl) ?_
  refine c_new (ci := 1) B hw (show kX 175 = (0, 1) from rfl) rfl inX_X1 tyX1_ok rfl dfX1 vnX8_51 (Nat.le_of_ble_eq_true rfl) (Nat.le_of_ble_eq_true rfl) dX8_init_82 (fun H hw => ?_)
  refine lv_dup hx hb dX8_init_85 rfl ?_
  refine c_call (n' := 180) B hw viX8_53 (k_X1 l g kX b 175 hg iF7 zJ rF7 hw.2.2.2 rfl rfl rfl rfl rfl) ⟨rfl, rfl, Nat.le_of_ble_eq_true rfl, Nat.le_of_ble_eq_true rfl⟩ (by omega) (by omega) hw.2.2.2.k1a hl.1 (Nat.le_of_ble_eq_true rfl) ⟨Nat.le_of_ble_eq_true rfl, Nat.le_of_ble_eq_true rfl⟩ dX8_init_86 (fun H locs hw => ?_)
  refine c_prF (x := 175) B hw (by omega) quX8_58 rfl hmn rfl (by omega) q0 rfl rfl dX8_init_89 (fun H locs hw => ?_)
  have hw : cHp g kX b 180 s iF8 zJ rF8 H locs := hw
  refine lv_aload_n hx hb dX8_init_92 rfl (lv_at hl 0 rfl) ?_
  refine c_new (ci := 3) B hw (show kX 180 = (0, 3) from rfl) rfl inX_X3 tyX3_ok rfl dfX3 vnX8_61 (Nat.le_of_ble_eq_true rfl) (Nat.le_of_ble_eq_true rfl) dX8_init_93 (fun H hw => ?_)
  refine lv_dup hx hb dX8_init_96 rfl ?_
  refine c_call (n' := 185) B hw viX8_63 M1 ⟨rfl, rfl, Nat.le_of_ble_eq_true rfl, Nat.le_of_ble_eq_true rfl⟩ (by omega) (by omega) FF1 hl.1 (Nat.le_of_ble_eq_true rfl) ⟨Nat.le_of_ble_eq_true rfl, Nat.le_of_ble_eq_true rfl⟩ dX8_init_97 (fun H locs hw => ?_)
  refine c_pr (x := 180) B hw (by omega) quX8_64 rfl (by omega) q0 rfl rfl dX8_init_100 (fun H locs hw => ?_)
  have hw : cHp g kX b 185 s I1 zJ rF9 H locs := hw
  refine lv_aload_n hx hb dX8_init_103 rfl (lv_at hl 0 rfl) ?_
  refine c_new (ci := 3) B hw (show kX 185 = (0, 3) from rfl) rfl inX_X3 tyX3_ok rfl dfX3 vnX8_61 (Nat.le_of_ble_eq_true rfl) (Nat.le_of_ble_eq_true rfl) dX8_init_104 (fun H hw => ?_)
  refine lv_dup hx hb dX8_init_107 rfl ?_
  refine c_call (n' := 190) B hw viX8_63 M2 ⟨rfl, rfl, Nat.le_of_ble_eq_true rfl, Nat.le_of_ble_eq_true rfl⟩ (by omega) (by omega) FF2 hl.1 (Nat.le_of_ble_eq_true rfl) ⟨Nat.le_of_ble_eq_true rfl, Nat.le_of_ble_eq_true rfl⟩ dX8_init_108 (fun H locs hw => ?_)
  refine c_pr (x := 185) B hw (by omega) quX8_68 rfl (by omega) q0 rfl rfl dX8_init_111 (fun H locs hw => ?_)
  have hw : cHp g kX b 190 s I2 zJ rF10 H locs := hw
  rw [hQm]
  exact c_ret hx hb hr hlk hw dX8_init_114
