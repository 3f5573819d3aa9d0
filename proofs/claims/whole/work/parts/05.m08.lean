def f_X9_statement (K : mK) (a0 : Nat) (I0 : mI) (J0 : mJ) (R0 : mR) : Option (Bool × mI) :=
  if K a0 = (0, 9) then
  (f_X9_takes K a0 (500085781608 : Int64) I0 J0 R0).bind fun z2 =>
  if (mb z2.1) = 0 then
  (f_X9_takes K a0 (1835102827 : Int64) z2.2 J0 R0).bind fun z5 =>
  if (mb z5.1) = 0 then
  (f_X9_takes K a0 (127996257334629 : Int64) z5.2 J0 R0).bind fun z8 =>
  if (mb z8.1) = 0 then
  (f_X9_takes K a0 (123563833388660 : Int64) z8.2 J0 R0).bind fun z12 =>
  if (mb z12.1) = 0 then
  (f_X9_takes K a0 (1852138852 : Int64) z12.2 J0 R0).bind fun z15 =>
  if (mb z15.1) = 0 then
  (f_X9_takes K a0 (120265298635118 : Int64) z15.2 J0 R0).bind fun z18 =>
  if (mb z18.1) = 0 then
  (f_X9_takes K a0 (495622122611 : Int64) z18.2 J0 R0).bind fun z21 =>
  if (mb z21.1) = 0 then
  some (false, z21.2)
  else
  (f_X9_takesNumber K a0 (1 : Int32) (5 : Int32) z21.2 J0 R0).bind fun z28 =>
  if (mb z28.1) = 0 then
  some (false, z28.2)
  else
  (R0 a0 14).bind fun x31 =>
  if mIx K x31 1 ((21 : Int32) + (20 : Int32)) then
  (some (mup z28.2 x31 (((21 : Int32) + (20 : Int32))).toNatClampNeg (z28.2 a0 22))).bind fun I34 =>
  (f_X9_blanks K a0 I34 J0 R0).bind fun z36 =>
  if (z36 a0 19) = (z36 a0 18) then
  some (false, z36)
  else
  (R0 a0 16).bind fun x39 =>
  if mIx K x39 2 (z36 a0 19) then
  if (z36 x39 ((z36 a0 19)).toNatClampNeg) = (59 : Int32) then
  (some (mup z36 a0 19 ((z36 a0 19) + (1 : Int32)))).bind fun I43 =>
  some (true, I43)
  else
  some (false, z36)
  else none
  else none
  else
  (f_X9_takesNumber K a0 (0 : Int32) (999 : Int32) z18.2 J0 R0).bind fun z48 =>
  if (mb z48.1) = 0 then
  some (false, z48.2)
  else
  (R0 a0 14).bind fun x51 =>
  if mIx K x51 1 ((21 : Int32) + (19 : Int32)) then
  (some (mup z48.2 x51 (((21 : Int32) + (19 : Int32))).toNatClampNeg (z48.2 a0 22))).bind fun I54 =>
  (f_X9_blanks K a0 I54 J0 R0).bind fun z56 =>
  if (z56 a0 19) = (z56 a0 18) then
  some (false, z56)
  else
  (R0 a0 16).bind fun x59 =>
  if mIx K x59 2 (z56 a0 19) then
  if (z56 x59 ((z56 a0 19)).toNatClampNeg) = (59 : Int32) then
  (some (mup z56 a0 19 ((z56 a0 19) + (1 : Int32)))).bind fun I63 =>
  some (true, I63)
  else
  some (false, z56)
  else none
  else none
  else
  (f_X9_takesNumber K a0 (0 : Int32) (999 : Int32) z15.2 J0 R0).bind fun z68 =>
  if (mb z68.1) = 0 then
  some (false, z68.2)
  else
  (R0 a0 14).bind fun x71 =>
  if mIx K x71 1 ((21 : Int32) + (18 : Int32)) then
  (some (mup z68.2 x71 (((21 : Int32) + (18 : Int32))).toNatClampNeg (z68.2 a0 22))).bind fun I74 =>
  (f_X9_blanks K a0 I74 J0 R0).bind fun z76 =>
  if (z76 a0 19) = (z76 a0 18) then
  some (false, z76)
  else
  (R0 a0 16).bind fun x79 =>
  if mIx K x79 2 (z76 a0 19) then
  if (z76 x79 ((z76 a0 19)).toNatClampNeg) = (59 : Int32) then
  (some (mup z76 a0 19 ((z76 a0 19) + (1 : Int32)))).bind fun I83 =>
  some (true, I83)
  else
  some (false, z76)
  else none
  else none
  else
  (f_X9_takesNumber K a0 (0 : Int32) (999 : Int32) z12.2 J0 R0).bind fun z88 =>
  if (mb z88.1) = 0 then
  some (false, z88.2)
  else
  (R0 a0 14).bind fun x91 =>
  if mIx K x91 1 ((21 : Int32) + (17 : Int32)) then
  (some (mup z88.2 x91 (((21 : Int32) + (17 : Int32))).toNatClampNeg (z88.2 a0 22))).bind fun I94 =>
  (f_X9_blanks K a0 I94 J0 R0).bind fun z96 =>
  if (z96 a0 19) = (z96 a0 18) then
  some (false, z96)
  else
  (R0 a0 16).bind fun x99 =>
  if mIx K x99 2 (z96 a0 19) then
  if (z96 x99 ((z96 a0 19)).toNatClampNeg) = (59 : Int32) then
  (some (mup z96 a0 19 ((z96 a0 19) + (1 : Int32)))).bind fun I103 =>
  some (true, I103)
  else
  some (false, z96)
  else none
  else none
  else
  (f_X9_takesNumber K a0 (1 : Int32) (9 : Int32) z8.2 J0 R0).bind fun z108 =>
  if (mb z108.1) = 0 then
  some (false, z108.2)
  else
  (f_X9_takes K a0 (26995 : Int64) z108.2 J0 R0).bind fun z111 =>
  if (mb z111.1) = 0 then
  some (false, z111.2)
  else
  if ((7 : Int32) + (z108.2 a0 22)) = (20 : Int32) then
  if ((7 : Int32) + (z108.2 a0 22)) = (20 : Int32) then
  (f_X9_takesNumber K a0 (1 : Int32) (5 : Int32) z111.2 J0 R0).bind fun z168 =>
  if (mb z168.1) = 0 then
  some (false, z168.2)
  else
  (R0 a0 14).bind fun x171 =>
  if mIx K x171 1 ((21 : Int32) + ((7 : Int32) + (z108.2 a0 22))) then
  (some (mup z168.2 x171 (((21 : Int32) + ((7 : Int32) + (z108.2 a0 22)))).toNatClampNeg (z168.2 a0 22))).bind fun I174 =>
  (f_X9_blanks K a0 I174 J0 R0).bind fun z176 =>
  if (z176 a0 19) = (z176 a0 18) then
  some (false, z176)
  else
  (R0 a0 16).bind fun x179 =>
  if mIx K x179 2 (z176 a0 19) then
  if (z176 x179 ((z176 a0 19)).toNatClampNeg) = (59 : Int32) then
  (some (mup z176 a0 19 ((z176 a0 19) + (1 : Int32)))).bind fun I183 =>
  some (true, I183)
  else
  some (false, z176)
  else none
  else none
  else
  (f_X9_takesNumber K a0 (1 : Int32) (999 : Int32) z111.2 J0 R0).bind fun z151 =>
  if (mb z151.1) = 0 then
  some (false, z151.2)
  else
  (R0 a0 14).bind fun x154 =>
  if mIx K x154 1 ((21 : Int32) + ((7 : Int32) + (z108.2 a0 22))) then
  (some (mup z151.2 x154 (((21 : Int32) + ((7 : Int32) + (z108.2 a0 22)))).toNatClampNeg (z151.2 a0 22))).bind fun I157 =>
  (f_X9_blanks K a0 I157 J0 R0).bind fun z159 =>
  if (z159 a0 19) = (z159 a0 18) then
  some (false, z159)
  else
  (R0 a0 16).bind fun x162 =>
  if mIx K x162 2 (z159 a0 19) then
  if (z159 x162 ((z159 a0 19)).toNatClampNeg) = (59 : Int32) then
  (some (mup z159 a0 19 ((z159 a0 19) + (1 : Int32)))).bind fun I166 =>
  some (true, I166)
  else
  some (false, z159)
  else none
  else none
  else
  if ((7 : Int32) + (z108.2 a0 22)) = (20 : Int32) then
  (f_X9_takesNumber K a0 (0 : Int32) (5 : Int32) z111.2 J0 R0).bind fun z133 =>
  if (mb z133.1) = 0 then
  some (false, z133.2)
  else
  (R0 a0 14).bind fun x136 =>
  if mIx K x136 1 ((21 : Int32) + ((7 : Int32) + (z108.2 a0 22))) then
  (some (mup z133.2 x136 (((21 : Int32) + ((7 : Int32) + (z108.2 a0 22)))).toNatClampNeg (z133.2 a0 22))).bind fun I139 =>
  (f_X9_blanks K a0 I139 J0 R0).bind fun z141 =>
  if (z141 a0 19) = (z141 a0 18) then
  some (false, z141)
  else
  (R0 a0 16).bind fun x144 =>
  if mIx K x144 2 (z141 a0 19) then
  if (z141 x144 ((z141 a0 19)).toNatClampNeg) = (59 : Int32) then
  (some (mup z141 a0 19 ((z141 a0 19) + (1 : Int32)))).bind fun I148 =>
  some (true, I148)
  else
  some (false, z141)
  else none
  else none
  else
  (f_X9_takesNumber K a0 (0 : Int32) (999 : Int32) z111.2 J0 R0).bind fun z116 =>
  if (mb z116.1) = 0 then
  some (false, z116.2)
  else
  (R0 a0 14).bind fun x119 =>
  if mIx K x119 1 ((21 : Int32) + ((7 : Int32) + (z108.2 a0 22))) then
  (some (mup z116.2 x119 (((21 : Int32) + ((7 : Int32) + (z108.2 a0 22)))).toNatClampNeg (z116.2 a0 22))).bind fun I122 =>
  (f_X9_blanks K a0 I122 J0 R0).bind fun z124 =>
  if (z124 a0 19) = (z124 a0 18) then
  some (false, z124)
  else
  (R0 a0 16).bind fun x127 =>
  if mIx K x127 2 (z124 a0 19) then
  if (z124 x127 ((z124 a0 19)).toNatClampNeg) = (59 : Int32) then
  (some (mup z124 a0 19 ((z124 a0 19) + (1 : Int32)))).bind fun I131 =>
  some (true, I131)
  else
  some (false, z124)
  else none
  else none
  else
  (f_X9_takesNumber K a0 (0 : Int32) (3 : Int32) z5.2 J0 R0).bind fun z188 =>
  if (mb z188.1) = 0 then
  some (false, z188.2)
  else
  (f_X9_takes K a0 (26995 : Int64) z188.2 J0 R0).bind fun z191 =>
  if (mb z191.1) = 0 then
  some (false, z191.2)
  else
  if ((4 : Int32) + (z188.2 a0 22)) = (20 : Int32) then
  if ((4 : Int32) + (z188.2 a0 22)) = (20 : Int32) then
  (f_X9_takesNumber K a0 (1 : Int32) (5 : Int32) z191.2 J0 R0).bind fun z248 =>
  if (mb z248.1) = 0 then
  some (false, z248.2)
  else
  (R0 a0 14).bind fun x251 =>
  if mIx K x251 1 ((21 : Int32) + ((4 : Int32) + (z188.2 a0 22))) then
  (some (mup z248.2 x251 (((21 : Int32) + ((4 : Int32) + (z188.2 a0 22)))).toNatClampNeg (z248.2 a0 22))).bind fun I254 =>
  (f_X9_blanks K a0 I254 J0 R0).bind fun z256 =>
  if (z256 a0 19) = (z256 a0 18) then
  some (false, z256)
  else
  (R0 a0 16).bind fun x259 =>
  if mIx K x259 2 (z256 a0 19) then
  if (z256 x259 ((z256 a0 19)).toNatClampNeg) = (59 : Int32) then
  (some (mup z256 a0 19 ((z256 a0 19) + (1 : Int32)))).bind fun I263 =>
  some (true, I263)
  else
  some (false, z256)
  else none
  else none
  else
  (f_X9_takesNumber K a0 (1 : Int32) (999 : Int32) z191.2 J0 R0).bind fun z231 =>
  if (mb z231.1) = 0 then
  some (false, z231.2)
  else
  (R0 a0 14).bind fun x234 =>
  if mIx K x234 1 ((21 : Int32) + ((4 : Int32) + (z188.2 a0 22))) then
  (some (mup z231.2 x234 (((21 : Int32) + ((4 : Int32) + (z188.2 a0 22)))).toNatClampNeg (z231.2 a0 22))).bind fun I237 =>
  (f_X9_blanks K a0 I237 J0 R0).bind fun z239 =>
  if (z239 a0 19) = (z239 a0 18) then
  some (false, z239)
  else
  (R0 a0 16).bind fun x242 =>
  if mIx K x242 2 (z239 a0 19) then
  if (z239 x242 ((z239 a0 19)).toNatClampNeg) = (59 : Int32) then
  (some (mup z239 a0 19 ((z239 a0 19) + (1 : Int32)))).bind fun I246 =>
  some (true, I246)
  else
  some (false, z239)
  else none
  else none
  else
  if ((4 : Int32) + (z188.2 a0 22)) = (20 : Int32) then
  (f_X9_takesNumber K a0 (0 : Int32) (5 : Int32) z191.2 J0 R0).bind fun z213 =>
  if (mb z213.1) = 0 then
  some (false, z213.2)
  else
  (R0 a0 14).bind fun x216 =>
  if mIx K x216 1 ((21 : Int32) + ((4 : Int32) + (z188.2 a0 22))) then
  (some (mup z213.2 x216 (((21 : Int32) + ((4 : Int32) + (z188.2 a0 22)))).toNatClampNeg (z213.2 a0 22))).bind fun I219 =>
  (f_X9_blanks K a0 I219 J0 R0).bind fun z221 =>
  if (z221 a0 19) = (z221 a0 18) then
  some (false, z221)
  else
  (R0 a0 16).bind fun x224 =>
  if mIx K x224 2 (z221 a0 19) then
  if (z221 x224 ((z221 a0 19)).toNatClampNeg) = (59 : Int32) then
  (some (mup z221 a0 19 ((z221 a0 19) + (1 : Int32)))).bind fun I228 =>
  some (true, I228)
  else
  some (false, z221)
  else none
  else none
  else
  (f_X9_takesNumber K a0 (0 : Int32) (999 : Int32) z191.2 J0 R0).bind fun z196 =>
  if (mb z196.1) = 0 then
  some (false, z196.2)
  else
  (R0 a0 14).bind fun x199 =>
  if mIx K x199 1 ((21 : Int32) + ((4 : Int32) + (z188.2 a0 22))) then
  (some (mup z196.2 x199 (((21 : Int32) + ((4 : Int32) + (z188.2 a0 22)))).toNatClampNeg (z196.2 a0 22))).bind fun I202 =>
  (f_X9_blanks K a0 I202 J0 R0).bind fun z204 =>
  if (z204 a0 19) = (z204 a0 18) then
  some (false, z204)
  else
  (R0 a0 16).bind fun x207 =>
  if mIx K x207 2 (z204 a0 19) then
  if (z204 x207 ((z204 a0 19)).toNatClampNeg) = (59 : Int32) then
  (some (mup z204 a0 19 ((z204 a0 19) + (1 : Int32)))).bind fun I211 =>
  some (true, I211)
  else
  some (false, z204)
  else none
  else none
  else
  (f_X9_takesNumber K a0 (1 : Int32) (3 : Int32) z2.2 J0 R0).bind fun z268 =>
  if (mb z268.1) = 0 then
  some (false, z268.2)
  else
  (f_X9_takes K a0 (26995 : Int64) z268.2 J0 R0).bind fun z271 =>
  if (mb z271.1) = 0 then
  some (false, z271.2)
  else
  if ((0 : Int32) + (z268.2 a0 22)) = (20 : Int32) then
  if ((0 : Int32) + (z268.2 a0 22)) = (20 : Int32) then
  (f_X9_takesNumber K a0 (1 : Int32) (5 : Int32) z271.2 J0 R0).bind fun z328 =>
  if (mb z328.1) = 0 then
  some (false, z328.2)
  else
  (R0 a0 14).bind fun x331 =>
  if mIx K x331 1 ((21 : Int32) + ((0 : Int32) + (z268.2 a0 22))) then
  (some (mup z328.2 x331 (((21 : Int32) + ((0 : Int32) + (z268.2 a0 22)))).toNatClampNeg (z328.2 a0 22))).bind fun I334 =>
  (f_X9_blanks K a0 I334 J0 R0).bind fun z336 =>
  if (z336 a0 19) = (z336 a0 18) then
  some (false, z336)
  else
  (R0 a0 16).bind fun x339 =>
  if mIx K x339 2 (z336 a0 19) then
  if (z336 x339 ((z336 a0 19)).toNatClampNeg) = (59 : Int32) then
  (some (mup z336 a0 19 ((z336 a0 19) + (1 : Int32)))).bind fun I343 =>
  some (true, I343)
  else
  some (false, z336)
  else none
  else none
  else
  (f_X9_takesNumber K a0 (1 : Int32) (999 : Int32) z271.2 J0 R0).bind fun z311 =>
  if (mb z311.1) = 0 then
  some (false, z311.2)
  else
  (R0 a0 14).bind fun x314 =>
  if mIx K x314 1 ((21 : Int32) + ((0 : Int32) + (z268.2 a0 22))) then
  (some (mup z311.2 x314 (((21 : Int32) + ((0 : Int32) + (z268.2 a0 22)))).toNatClampNeg (z311.2 a0 22))).bind fun I317 =>
  (f_X9_blanks K a0 I317 J0 R0).bind fun z319 =>
  if (z319 a0 19) = (z319 a0 18) then
  some (false, z319)
  else
  (R0 a0 16).bind fun x322 =>
  if mIx K x322 2 (z319 a0 19) then
  if (z319 x322 ((z319 a0 19)).toNatClampNeg) = (59 : Int32) then
  (some (mup z319 a0 19 ((z319 a0 19) + (1 : Int32)))).bind fun I326 =>
  some (true, I326)
  else
  some (false, z319)
  else none
  else none
  else
  if ((0 : Int32) + (z268.2 a0 22)) = (20 : Int32) then
  (f_X9_takesNumber K a0 (0 : Int32) (5 : Int32) z271.2 J0 R0).bind fun z293 =>
  if (mb z293.1) = 0 then
  some (false, z293.2)
  else
  (R0 a0 14).bind fun x296 =>
  if mIx K x296 1 ((21 : Int32) + ((0 : Int32) + (z268.2 a0 22))) then
  (some (mup z293.2 x296 (((21 : Int32) + ((0 : Int32) + (z268.2 a0 22)))).toNatClampNeg (z293.2 a0 22))).bind fun I299 =>
  (f_X9_blanks K a0 I299 J0 R0).bind fun z301 =>
  if (z301 a0 19) = (z301 a0 18) then
  some (false, z301)
  else
  (R0 a0 16).bind fun x304 =>
  if mIx K x304 2 (z301 a0 19) then
  if (z301 x304 ((z301 a0 19)).toNatClampNeg) = (59 : Int32) then
  (some (mup z301 a0 19 ((z301 a0 19) + (1 : Int32)))).bind fun I308 =>
  some (true, I308)
  else
  some (false, z301)
  else none
  else none
  else
  (f_X9_takesNumber K a0 (0 : Int32) (999 : Int32) z271.2 J0 R0).bind fun z276 =>
  if (mb z276.1) = 0 then
  some (false, z276.2)
  else
  (R0 a0 14).bind fun x279 =>
  if mIx K x279 1 ((21 : Int32) + ((0 : Int32) + (z268.2 a0 22))) then
  (some (mup z276.2 x279 (((21 : Int32) + ((0 : Int32) + (z268.2 a0 22)))).toNatClampNeg (z276.2 a0 22))).bind fun I282 =>
  (f_X9_blanks K a0 I282 J0 R0).bind fun z284 =>
  if (z284 a0 19) = (z284 a0 18) then
  some (false, z284)
  else
  (R0 a0 16).bind fun x287 =>
  if mIx K x287 2 (z284 a0 19) then
  if (z284 x287 ((z284 a0 19)).toNatClampNeg) = (59 : Int32) then
  (some (mup z284 a0 19 ((z284 a0 19) + (1 : Int32)))).bind fun I291 =>
  some (true, I291)
  else
  some (false, z284)
  else none
  else none
  else none
set_option maxHeartbeats 4000000 in
set_option maxRecDepth 100000 in
theorem r_X9_statement (l : Launch) (g : mG) (K : mK) (n : Nat) (hJ : mInj g n) (hO : mOk K n) (a0 : Nat) (I0 : mI) (J0 : mJ) (R0 : mR) (out : (Bool × mI)) (hf : f_X9_statement K a0 I0 J0 R0 = some out) : Met l yX9_statement (mWs yX9_statement cX9_statement 3 (some .boolean)) ({ frames := 3, cells := 0, slots := 0, locals := 64 }) (va_Pc [.ref (g.2.1 a0)] (mB g K n I0 J0 R0)) (mQ g K n (some (.int (mb out.1))) out.2 J0 R0) 0 0 (mA g n) := by
  unfold f_X9_statement at hf
  refine mStart RX9 hJ hO (by decide) rfl (Nat.le_of_ble_eq_true rfl) ?_
  intro p e s m below meth c ls Qm hQm B hr hlk hw hl
  have hx := B.1.1
  have hb := B.1.2.1
  have hl : lv_has ls 3 [(0, .ref (g.2.1 a0))] := hl
  refine lv_aload_n hx hb dX9_statement_0 rfl (lv_at hl 0 rfl) ?_
  refine lv_ldc2 (v := (500085781608 : Int64)) hx hb B.1.2.2.2.1 (B.1.2.2.2.2 (Cond.constantLong RX9 180 (500085781608 : Int64)) (mT_at 931 rfl rfl)) dX9_statement_1 ?_
  obtain ⟨h1, hf⟩ := mChk hf
  obtain ⟨z2, e3, hf⟩ := mBind hf
  refine mcallV (rest := []) (ci := 9) B hw [.long (500085781608 : Int64)] clX9_182 rfl h1 (r_X9_takes l g K n hJ hO a0 (500085781608 : Int64) I0 J0 R0 z2 e3) ⟨rfl, rfl, Nat.le_of_ble_eq_true rfl, Nat.le_of_ble_eq_true rfl⟩ rfl hl.1 (Nat.le_of_ble_eq_true rfl) ⟨Nat.zero_le _, Nat.zero_le _⟩ dX9_statement_4 (fun H locs hw => ?_)
  refine W.eq (g2 := F0 m 7 ls [.int (mb z2.1)]) rfl ?_
  refine lv_if_eq (tgt := 14) hx hb dX9_statement_7 (by decide) (fun c4 => ?_) (fun c4 => ?_)
  · replace hf := mT1 c4 hf
    refine lv_aload_n hx hb dX9_statement_14 rfl (lv_at hl 0 rfl) ?_
    refine lv_ldc2 (v := (1835102827 : Int64)) hx hb B.1.2.2.2.1 (B.1.2.2.2.2 (Cond.constantLong RX9 186 (1835102827 : Int64)) (mT_at 940 rfl rfl)) dX9_statement_15 ?_
    obtain ⟨z5, e6, hf⟩ := mBind hf
    refine mcallV (rest := []) (ci := 9) B hw [.long (1835102827 : Int64)] clX9_182 rfl h1 (r_X9_takes l g K n hJ hO a0 (1835102827 : Int64) z2.2 J0 R0 z5 e6) ⟨rfl, rfl, Nat.le_of_ble_eq_true rfl, Nat.le_of_ble_eq_true rfl⟩ rfl hl.1 (Nat.le_of_ble_eq_true rfl) ⟨Nat.zero_le _, Nat.zero_le _⟩ dX9_statement_18 (fun H locs hw => ?_)
    refine W.eq (g2 := F0 m 21 ls [.int (mb z5.1)]) rfl ?_
    refine lv_if_eq (tgt := 28) hx hb dX9_statement_21 (by decide) (fun c7 => ?_) (fun c7 => ?_)
    · replace hf := mT1 c7 hf
      refine lv_aload_n hx hb dX9_statement_28 rfl (lv_at hl 0 rfl) ?_
      refine lv_ldc2 (v := (127996257334629 : Int64)) hx hb B.1.2.2.2.1 (B.1.2.2.2.2 (Cond.constantLong RX9 188 (127996257334629 : Int64)) (mT_at 941 rfl rfl)) dX9_statement_29 ?_
      obtain ⟨z8, e9, hf⟩ := mBind hf
      refine mcallV (rest := []) (ci := 9) B hw [.long (127996257334629 : Int64)] clX9_182 rfl h1 (r_X9_takes l g K n hJ hO a0 (127996257334629 : Int64) z5.2 J0 R0 z8 e9) ⟨rfl, rfl, Nat.le_of_ble_eq_true rfl, Nat.le_of_ble_eq_true rfl⟩ rfl hl.1 (Nat.le_of_ble_eq_true rfl) ⟨Nat.zero_le _, Nat.zero_le _⟩ dX9_statement_32 (fun H locs hw => ?_)
      refine W.eq (g2 := F0 m 35 ls [.int (mb z8.1)]) rfl ?_
      refine lv_if_eq (tgt := 43) hx hb dX9_statement_35 (by decide) (fun c10 => ?_) (fun c10 => ?_)
      · replace hf := mT1 c10 hf
        refine lv_iconst (v := (-1 : Int32)) hx hb dX9_statement_43 (by decide) ?_
        refine lv_istore_n (lv' := [(1, .int (-1 : Int32)), (0, .ref (g.2.1 a0))]) hx hb dX9_statement_44 rfl hl (by decide) rfl (fun ls hl => ?_)
        refine lv_iload_n hx hb dX9_statement_45 rfl (lv_at hl 0 rfl) ?_
        refine lv_iconst (v := (-1 : Int32)) hx hb dX9_statement_46 (by decide) ?_
        refine lv_icmp_eq (tgt := 100) hx hb dX9_statement_47 (by decide) (fun _ => ?_) (fun c => absurd (by decide) c)
        refine lv_aload_n hx hb dX9_statement_100 rfl (lv_at hl 1 rfl) ?_
        refine lv_ldc2 (v := (123563833388660 : Int64)) hx hb B.1.2.2.2.1 (B.1.2.2.2.2 (Cond.constantLong RX9 195 (123563833388660 : Int64)) (mT_at 947 rfl rfl)) dX9_statement_101 ?_
        obtain ⟨z12, e13, hf⟩ := mBind hf
        refine mcallV (rest := []) (ci := 9) B hw [.long (123563833388660 : Int64)] clX9_182 rfl h1 (r_X9_takes l g K n hJ hO a0 (123563833388660 : Int64) z8.2 J0 R0 z12 e13) ⟨rfl, rfl, Nat.le_of_ble_eq_true rfl, Nat.le_of_ble_eq_true rfl⟩ rfl hl.1 (Nat.le_of_ble_eq_true rfl) ⟨Nat.zero_le _, Nat.zero_le _⟩ dX9_statement_104 (fun H locs hw => ?_)
        refine W.eq (g2 := F0 m 107 ls [.int (mb z12.1)]) rfl ?_
        refine lv_if_eq (tgt := 115) hx hb dX9_statement_107 (by decide) (fun c14 => ?_) (fun c14 => ?_)
        · replace hf := mT1 c14 hf
          refine lv_aload_n hx hb dX9_statement_115 rfl (lv_at hl 1 rfl) ?_
          refine lv_ldc2 (v := (1852138852 : Int64)) hx hb B.1.2.2.2.1 (B.1.2.2.2.2 (Cond.constantLong RX9 197 (1852138852 : Int64)) (mT_at 948 rfl rfl)) dX9_statement_116 ?_
          obtain ⟨z15, e16, hf⟩ := mBind hf
          refine mcallV (rest := []) (ci := 9) B hw [.long (1852138852 : Int64)] clX9_182 rfl h1 (r_X9_takes l g K n hJ hO a0 (1852138852 : Int64) z12.2 J0 R0 z15 e16) ⟨rfl, rfl, Nat.le_of_ble_eq_true rfl, Nat.le_of_ble_eq_true rfl⟩ rfl hl.1 (Nat.le_of_ble_eq_true rfl) ⟨Nat.zero_le _, Nat.zero_le _⟩ dX9_statement_119 (fun H locs hw => ?_)
          refine W.eq (g2 := F0 m 122 ls [.int (mb z15.1)]) rfl ?_
          refine lv_if_eq (tgt := 130) hx hb dX9_statement_122 (by decide) (fun c17 => ?_) (fun c17 => ?_)
          · replace hf := mT1 c17 hf
            refine lv_aload_n hx hb dX9_statement_130 rfl (lv_at hl 1 rfl) ?_
            refine lv_ldc2 (v := (120265298635118 : Int64)) hx hb B.1.2.2.2.1 (B.1.2.2.2.2 (Cond.constantLong RX9 199 (120265298635118 : Int64)) (mT_at 949 rfl rfl)) dX9_statement_131 ?_
            obtain ⟨z18, e19, hf⟩ := mBind hf
            refine mcallV (rest := []) (ci := 9) B hw [.long (120265298635118 : Int64)] clX9_182 rfl h1 (r_X9_takes l g K n hJ hO a0 (120265298635118 : Int64) z15.2 J0 R0 z18 e19) ⟨rfl, rfl, Nat.le_of_ble_eq_true rfl, Nat.le_of_ble_eq_true rfl⟩ rfl hl.1 (Nat.le_of_ble_eq_true rfl) ⟨Nat.zero_le _, Nat.zero_le _⟩ dX9_statement_134 (fun H locs hw => ?_)
            refine W.eq (g2 := F0 m 137 ls [.int (mb z18.1)]) rfl ?_
            refine lv_if_eq (tgt := 145) hx hb dX9_statement_137 (by decide) (fun c20 => ?_) (fun c20 => ?_)
            · replace hf := mT1 c20 hf
              refine lv_aload_n hx hb dX9_statement_145 rfl (lv_at hl 1 rfl) ?_
              refine lv_ldc2 (v := (495622122611 : Int64)) hx hb B.1.2.2.2.1 (B.1.2.2.2.2 (Cond.constantLong RX9 201 (495622122611 : Int64)) (mT_at 950 rfl rfl)) dX9_statement_146 ?_
              obtain ⟨z21, e22, hf⟩ := mBind hf
              refine mcallV (rest := []) (ci := 9) B hw [.long (495622122611 : Int64)] clX9_182 rfl h1 (r_X9_takes l g K n hJ hO a0 (495622122611 : Int64) z18.2 J0 R0 z21 e22) ⟨rfl, rfl, Nat.le_of_ble_eq_true rfl, Nat.le_of_ble_eq_true rfl⟩ rfl hl.1 (Nat.le_of_ble_eq_true rfl) ⟨Nat.zero_le _, Nat.zero_le _⟩ dX9_statement_149 (fun H locs hw => ?_)
              refine W.eq (g2 := F0 m 152 ls [.int (mb z21.1)]) rfl ?_
              refine lv_if_eq (tgt := 160) hx hb dX9_statement_152 (by decide) (fun c23 => ?_) (fun c23 => ?_)
              · replace hf := mT1 c23 hf
                refine lv_iconst (v := (-1 : Int32)) hx hb dX9_statement_160 (by decide) ?_
                refine lv_istore_n (lv' := [(2, .int (-1 : Int32)), (1, .int (-1 : Int32)), (0, .ref (g.2.1 a0))]) hx hb dX9_statement_161 rfl hl (by decide) rfl (fun ls hl => ?_)
                refine lv_iload_n hx hb dX9_statement_162 rfl (lv_at hl 0 rfl) ?_
                refine lv_iconst (v := (-1 : Int32)) hx hb dX9_statement_163 (by decide) ?_
                refine lv_icmp_ne (tgt := 169) hx hb dX9_statement_164 (by decide) (fun c => absurd (by decide) c) (fun _ => ?_)
                refine lv_iconst (v := (0 : Int32)) hx hb dX9_statement_167 (by decide) ?_
                rw [hQm, ← Option.some.inj hf]
                exact mrz (v := false) hx hb hr hlk hw dX9_statement_168
              · replace hf := mF1 c23 hf
                refine lv_bipush (v := (20 : Int32)) hx hb dX9_statement_155 (by decide) ?_
                refine lv_goto (tgt := 161) hx hb dX9_statement_157 (by decide) ?_
                refine lv_istore_n (lv' := [(2, .int (20 : Int32)), (1, .int (-1 : Int32)), (0, .ref (g.2.1 a0))]) hx hb dX9_statement_161 rfl hl (by decide) rfl (fun ls hl => ?_)
                refine lv_iload_n hx hb dX9_statement_162 rfl (lv_at hl 0 rfl) ?_
                refine lv_iconst (v := (-1 : Int32)) hx hb dX9_statement_163 (by decide) ?_
                refine lv_icmp_ne (tgt := 169) hx hb dX9_statement_164 (by decide) (fun _ => ?_) (fun c => absurd c (by decide))
                refine lv_aload_n hx hb dX9_statement_169 rfl (lv_at hl 2 rfl) ?_
                refine lv_iload_n hx hb dX9_statement_170 rfl (lv_at hl 0 rfl) ?_
                refine lv_bipush (v := (20 : Int32)) hx hb dX9_statement_171 (by decide) ?_
                refine lv_icmp_ne (tgt := 180) hx hb dX9_statement_173 (by decide) (fun c => absurd (by decide) c) (fun _ => ?_)
                refine lv_iconst (v := (1 : Int32)) hx hb dX9_statement_176 (by decide) ?_
                refine lv_goto (tgt := 181) hx hb dX9_statement_177 (by decide) ?_
                refine lv_iload_n hx hb dX9_statement_181 rfl (lv_at hl 0 rfl) ?_
                refine lv_bipush (v := (20 : Int32)) hx hb dX9_statement_182 (by decide) ?_
                refine lv_icmp_ne (tgt := 191) hx hb dX9_statement_184 (by decide) (fun c => absurd (by decide) c) (fun _ => ?_)
                refine lv_iconst (v := (5 : Int32)) hx hb dX9_statement_187 (by decide) ?_
                refine lv_goto (tgt := 194) hx hb dX9_statement_188 (by decide) ?_
                obtain ⟨z28, e29, hf⟩ := mBind hf
                refine mcallV (rest := []) (ci := 9) B hw [.int (1 : Int32), .int (5 : Int32)] clX9_190 rfl h1 (r_X9_takesNumber l g K n hJ hO a0 (1 : Int32) (5 : Int32) z21.2 J0 R0 z28 e29) ⟨rfl, rfl, Nat.le_of_ble_eq_true rfl, Nat.le_of_ble_eq_true rfl⟩ rfl hl.1 (Nat.le_of_ble_eq_true rfl) ⟨Nat.zero_le _, Nat.zero_le _⟩ dX9_statement_194 (fun H locs hw => ?_)
                refine W.eq (g2 := F0 m 197 ls [.int (mb z28.1)]) rfl ?_
                refine lv_if_ne (tgt := 202) hx hb dX9_statement_197 (by decide) (fun c30 => ?_) (fun c30 => ?_)
                · replace hf := mF1 c30 hf
                  refine lv_aload_n hx hb dX9_statement_202 rfl (lv_at hl 2 rfl) ?_
                  obtain ⟨x31, e32, hf⟩ := mBind hf
                  refine mgr B hw flX9_50 rfl h1 e32 dX9_statement_203 ?_
                  refine lv_bipush (v := (21 : Int32)) hx hb dX9_statement_206 (by decide) ?_
                  refine lv_iload_n hx hb dX9_statement_208 rfl (lv_at hl 0 rfl) ?_
                  refine lv_iadd hx hb dX9_statement_209 ?_
                  refine lv_aload_n hx hb dX9_statement_210 rfl (lv_at hl 2 rfl) ?_
                  refine mgi B hw flX9_177 rfl h1 dX9_statement_211 ?_
                  obtain ⟨h33, hf⟩ := mChk hf
                  obtain ⟨I34, e35, hf⟩ := mLet hf
                  refine mst1 B hw h33 dX9_statement_214 (fun H locs hw => ?_)
                  rw [← e35] at hw
                  refine lv_aload_n hx hb dX9_statement_215 rfl (lv_at hl 2 rfl) ?_
                  obtain ⟨z36, e37, hf⟩ := mBind hf
                  refine mcallV (rest := []) (ci := 9) B hw [] clX9_167 rfl h1 (r_X9_blanks l g K n hJ hO a0 I34 J0 R0 z36 e37) ⟨rfl, rfl, Nat.le_of_ble_eq_true rfl, Nat.le_of_ble_eq_true rfl⟩ rfl hl.1 (Nat.le_of_ble_eq_true rfl) ⟨Nat.zero_le _, Nat.zero_le _⟩ dX9_statement_216 (fun H locs hw => ?_)
                  refine W.eq (g2 := F0 m 219 ls []) rfl ?_
                  refine lv_aload_n hx hb dX9_statement_219 rfl (lv_at hl 2 rfl) ?_
                  refine mgi B hw flX9_161 rfl h1 dX9_statement_220 ?_
                  refine lv_aload_n hx hb dX9_statement_223 rfl (lv_at hl 2 rfl) ?_
                  refine mgi B hw flX9_164 rfl h1 dX9_statement_224 ?_
                  refine lv_icmp_eq (tgt := 244) hx hb dX9_statement_227 (by decide) (fun c38 => ?_) (fun c38 => ?_)
                  · replace hf := mT1 c38 hf
                    refine lv_iconst (v := (0 : Int32)) hx hb dX9_statement_244 (by decide) ?_
                    rw [hQm, ← Option.some.inj hf]
                    exact mrz (v := false) hx hb hr hlk hw dX9_statement_245
                  · replace hf := mF1 c38 hf
                    refine lv_aload_n hx hb dX9_statement_230 rfl (lv_at hl 2 rfl) ?_
                    obtain ⟨x39, e40, hf⟩ := mBind hf
                    refine mgr B hw flX9_57 rfl h1 e40 dX9_statement_231 ?_
                    refine lv_aload_n hx hb dX9_statement_234 rfl (lv_at hl 2 rfl) ?_
                    refine mgi B hw flX9_161 rfl h1 dX9_statement_235 ?_
                    obtain ⟨h41, hf⟩ := mChk hf
                    refine mld2 B hw h41 dX9_statement_238 ?_
                    refine lv_bipush (v := (59 : Int32)) hx hb dX9_statement_239 (by decide) ?_
                    refine lv_icmp_eq (tgt := 246) hx hb dX9_statement_241 (by decide) (fun c42 => ?_) (fun c42 => ?_)
                    · replace hf := mT1 c42 hf
                      refine lv_aload_n hx hb dX9_statement_246 rfl (lv_at hl 2 rfl) ?_
                      refine lv_dup hx hb dX9_statement_247 rfl ?_
                      refine mgi B hw flX9_161 rfl h1 dX9_statement_248 ?_
                      refine lv_iconst (v := (1 : Int32)) hx hb dX9_statement_251 (by decide) ?_
                      refine lv_iadd hx hb dX9_statement_252 ?_
                      obtain ⟨I43, e44, hf⟩ := mLet hf
                      refine mpi B hw puX9_161 rfl h1 dX9_statement_253 (fun H locs hw => ?_)
                      rw [← e44] at hw
                      refine lv_iconst (v := (1 : Int32)) hx hb dX9_statement_256 (by decide) ?_
                      rw [hQm, ← Option.some.inj hf]
                      exact mrz (v := true) hx hb hr hlk hw dX9_statement_257
                    · replace hf := mF1 c42 hf
                      refine lv_iconst (v := (0 : Int32)) hx hb dX9_statement_244 (by decide) ?_
                      rw [hQm, ← Option.some.inj hf]
                      exact mrz (v := false) hx hb hr hlk hw dX9_statement_245
                · replace hf := mT1 c30 hf
                  refine lv_iconst (v := (0 : Int32)) hx hb dX9_statement_200 (by decide) ?_
                  rw [hQm, ← Option.some.inj hf]
                  exact mrz (v := false) hx hb hr hlk hw dX9_statement_201
            · replace hf := mF1 c20 hf
              refine lv_bipush (v := (19 : Int32)) hx hb dX9_statement_140 (by decide) ?_
              refine lv_goto (tgt := 161) hx hb dX9_statement_142 (by decide) ?_
              refine lv_istore_n (lv' := [(2, .int (19 : Int32)), (1, .int (-1 : Int32)), (0, .ref (g.2.1 a0))]) hx hb dX9_statement_161 rfl hl (by decide) rfl (fun ls hl => ?_)
              refine lv_iload_n hx hb dX9_statement_162 rfl (lv_at hl 0 rfl) ?_
              refine lv_iconst (v := (-1 : Int32)) hx hb dX9_statement_163 (by decide) ?_
              refine lv_icmp_ne (tgt := 169) hx hb dX9_statement_164 (by decide) (fun _ => ?_) (fun c => absurd c (by decide))
              refine lv_aload_n hx hb dX9_statement_169 rfl (lv_at hl 2 rfl) ?_
              refine lv_iload_n hx hb dX9_statement_170 rfl (lv_at hl 0 rfl) ?_
              refine lv_bipush (v := (20 : Int32)) hx hb dX9_statement_171 (by decide) ?_
              refine lv_icmp_ne (tgt := 180) hx hb dX9_statement_173 (by decide) (fun _ => ?_) (fun c => absurd c (by decide))
              refine lv_iconst (v := (0 : Int32)) hx hb dX9_statement_180 (by decide) ?_
              refine lv_iload_n hx hb dX9_statement_181 rfl (lv_at hl 0 rfl) ?_
              refine lv_bipush (v := (20 : Int32)) hx hb dX9_statement_182 (by decide) ?_
              refine lv_icmp_ne (tgt := 191) hx hb dX9_statement_184 (by decide) (fun _ => ?_) (fun c => absurd c (by decide))
              refine lv_sipush (v := (999 : Int32)) hx hb dX9_statement_191 (by decide) ?_
              obtain ⟨z48, e49, hf⟩ := mBind hf
              refine mcallV (rest := []) (ci := 9) B hw [.int (0 : Int32), .int (999 : Int32)] clX9_190 rfl h1 (r_X9_takesNumber l g K n hJ hO a0 (0 : Int32) (999 : Int32) z18.2 J0 R0 z48 e49) ⟨rfl, rfl, Nat.le_of_ble_eq_true rfl, Nat.le_of_ble_eq_true rfl⟩ rfl hl.1 (Nat.le_of_ble_eq_true rfl) ⟨Nat.zero_le _, Nat.zero_le _⟩ dX9_statement_194 (fun H locs hw => ?_)
              refine W.eq (g2 := F0 m 197 ls [.int (mb z48.1)]) rfl ?_
              refine lv_if_ne (tgt := 202) hx hb dX9_statement_197 (by decide) (fun c50 => ?_) (fun c50 => ?_)
              · replace hf := mF1 c50 hf
                refine lv_aload_n hx hb dX9_statement_202 rfl (lv_at hl 2 rfl) ?_
                obtain ⟨x51, e52, hf⟩ := mBind hf
                refine mgr B hw flX9_50 rfl h1 e52 dX9_statement_203 ?_
                refine lv_bipush (v := (21 : Int32)) hx hb dX9_statement_206 (by decide) ?_
                refine lv_iload_n hx hb dX9_statement_208 rfl (lv_at hl 0 rfl) ?_
                refine lv_iadd hx hb dX9_statement_209 ?_
                refine lv_aload_n hx hb dX9_statement_210 rfl (lv_at hl 2 rfl) ?_
                refine mgi B hw flX9_177 rfl h1 dX9_statement_211 ?_
                obtain ⟨h53, hf⟩ := mChk hf
                obtain ⟨I54, e55, hf⟩ := mLet hf
                refine mst1 B hw h53 dX9_statement_214 (fun H locs hw => ?_)
                rw [← e55] at hw
                refine lv_aload_n hx hb dX9_statement_215 rfl (lv_at hl 2 rfl) ?_
                obtain ⟨z56, e57, hf⟩ := mBind hf
                refine mcallV (rest := []) (ci := 9) B hw [] clX9_167 rfl h1 (r_X9_blanks l g K n hJ hO a0 I54 J0 R0 z56 e57) ⟨rfl, rfl, Nat.le_of_ble_eq_true rfl, Nat.le_of_ble_eq_true rfl⟩ rfl hl.1 (Nat.le_of_ble_eq_true rfl) ⟨Nat.zero_le _, Nat.zero_le _⟩ dX9_statement_216 (fun H locs hw => ?_)
                refine W.eq (g2 := F0 m 219 ls []) rfl ?_
                refine lv_aload_n hx hb dX9_statement_219 rfl (lv_at hl 2 rfl) ?_
                refine mgi B hw flX9_161 rfl h1 dX9_statement_220 ?_
                refine lv_aload_n hx hb dX9_statement_223 rfl (lv_at hl 2 rfl) ?_
                refine mgi B hw flX9_164 rfl h1 dX9_statement_224 ?_
                refine lv_icmp_eq (tgt := 244) hx hb dX9_statement_227 (by decide) (fun c58 => ?_) (fun c58 => ?_)
                · replace hf := mT1 c58 hf
                  refine lv_iconst (v := (0 : Int32)) hx hb dX9_statement_244 (by decide) ?_
                  rw [hQm, ← Option.some.inj hf]
                  exact mrz (v := false) hx hb hr hlk hw dX9_statement_245
                · replace hf := mF1 c58 hf
                  refine lv_aload_n hx hb dX9_statement_230 rfl (lv_at hl 2 rfl) ?_
                  obtain ⟨x59, e60, hf⟩ := mBind hf
                  refine mgr B hw flX9_57 rfl h1 e60 dX9_statement_231 ?_
                  refine lv_aload_n hx hb dX9_statement_234 rfl (lv_at hl 2 rfl) ?_
                  refine mgi B hw flX9_161 rfl h1 dX9_statement_235 ?_
                  obtain ⟨h61, hf⟩ := mChk hf
                  refine mld2 B hw h61 dX9_statement_238 ?_
                  refine lv_bipush (v := (59 : Int32)) hx hb dX9_statement_239 (by decide) ?_
                  refine lv_icmp_eq (tgt := 246) hx hb dX9_statement_241 (by decide) (fun c62 => ?_) (fun c62 => ?_)
                  · replace hf := mT1 c62 hf
                    refine lv_aload_n hx hb dX9_statement_246 rfl (lv_at hl 2 rfl) ?_
                    refine lv_dup hx hb dX9_statement_247 rfl ?_
                    refine mgi B hw flX9_161 rfl h1 dX9_statement_248 ?_
                    refine lv_iconst (v := (1 : Int32)) hx hb dX9_statement_251 (by decide) ?_
                    refine lv_iadd hx hb dX9_statement_252 ?_
                    obtain ⟨I63, e64, hf⟩ := mLet hf
                    refine mpi B hw puX9_161 rfl h1 dX9_statement_253 (fun H locs hw => ?_)
                    rw [← e64] at hw
                    refine lv_iconst (v := (1 : Int32)) hx hb dX9_statement_256 (by decide) ?_
                    rw [hQm, ← Option.some.inj hf]
                    exact mrz (v := true) hx hb hr hlk hw dX9_statement_257
                  · replace hf := mF1 c62 hf
                    refine lv_iconst (v := (0 : Int32)) hx hb dX9_statement_244 (by decide) ?_
                    rw [hQm, ← Option.some.inj hf]
                    exact mrz (v := false) hx hb hr hlk hw dX9_statement_245
              · replace hf := mT1 c50 hf
                refine lv_iconst (v := (0 : Int32)) hx hb dX9_statement_200 (by decide) ?_
                rw [hQm, ← Option.some.inj hf]
                exact mrz (v := false) hx hb hr hlk hw dX9_statement_201
          · replace hf := mF1 c17 hf
            refine lv_bipush (v := (18 : Int32)) hx hb dX9_statement_125 (by decide) ?_
            refine lv_goto (tgt := 161) hx hb dX9_statement_127 (by decide) ?_
            refine lv_istore_n (lv' := [(2, .int (18 : Int32)), (1, .int (-1 : Int32)), (0, .ref (g.2.1 a0))]) hx hb dX9_statement_161 rfl hl (by decide) rfl (fun ls hl => ?_)
            refine lv_iload_n hx hb dX9_statement_162 rfl (lv_at hl 0 rfl) ?_
            refine lv_iconst (v := (-1 : Int32)) hx hb dX9_statement_163 (by decide) ?_
            refine lv_icmp_ne (tgt := 169) hx hb dX9_statement_164 (by decide) (fun _ => ?_) (fun c => absurd c (by decide))
            refine lv_aload_n hx hb dX9_statement_169 rfl (lv_at hl 2 rfl) ?_
            refine lv_iload_n hx hb dX9_statement_170 rfl (lv_at hl 0 rfl) ?_
            refine lv_bipush (v := (20 : Int32)) hx hb dX9_statement_171 (by decide) ?_
            refine lv_icmp_ne (tgt := 180) hx hb dX9_statement_173 (by decide) (fun _ => ?_) (fun c => absurd c (by decide))
            refine lv_iconst (v := (0 : Int32)) hx hb dX9_statement_180 (by decide) ?_
            refine lv_iload_n hx hb dX9_statement_181 rfl (lv_at hl 0 rfl) ?_
            refine lv_bipush (v := (20 : Int32)) hx hb dX9_statement_182 (by decide) ?_
            refine lv_icmp_ne (tgt := 191) hx hb dX9_statement_184 (by decide) (fun _ => ?_) (fun c => absurd c (by decide))
            refine lv_sipush (v := (999 : Int32)) hx hb dX9_statement_191 (by decide) ?_
            obtain ⟨z68, e69, hf⟩ := mBind hf
            refine mcallV (rest := []) (ci := 9) B hw [.int (0 : Int32), .int (999 : Int32)] clX9_190 rfl h1 (r_X9_takesNumber l g K n hJ hO a0 (0 : Int32) (999 : Int32) z15.2 J0 R0 z68 e69) ⟨rfl, rfl, Nat.le_of_ble_eq_true rfl, Nat.le_of_ble_eq_true rfl⟩ rfl hl.1 (Nat.le_of_ble_eq_true rfl) ⟨Nat.zero_le _, Nat.zero_le _⟩ dX9_statement_194 (fun H locs hw => ?_)
            refine W.eq (g2 := F0 m 197 ls [.int (mb z68.1)]) rfl ?_
            refine lv_if_ne (tgt := 202) hx hb dX9_statement_197 (by decide) (fun c70 => ?_) (fun c70 => ?_)
            · replace hf := mF1 c70 hf
              refine lv_aload_n hx hb dX9_statement_202 rfl (lv_at hl 2 rfl) ?_
              obtain ⟨x71, e72, hf⟩ := mBind hf
              refine mgr B hw flX9_50 rfl h1 e72 dX9_statement_203 ?_
              refine lv_bipush (v := (21 : Int32)) hx hb dX9_statement_206 (by decide) ?_
              refine lv_iload_n hx hb dX9_statement_208 rfl (lv_at hl 0 rfl) ?_
              refine lv_iadd hx hb dX9_statement_209 ?_
              refine lv_aload_n hx hb dX9_statement_210 rfl (lv_at hl 2 rfl) ?_
              refine mgi B hw flX9_177 rfl h1 dX9_statement_211 ?_
              obtain ⟨h73, hf⟩ := mChk hf
              obtain ⟨I74, e75, hf⟩ := mLet hf
              refine mst1 B hw h73 dX9_statement_214 (fun H locs hw => ?_)
              rw [← e75] at hw
              refine lv_aload_n hx hb dX9_statement_215 rfl (lv_at hl 2 rfl) ?_
              obtain ⟨z76, e77, hf⟩ := mBind hf
              refine mcallV (rest := []) (ci := 9) B hw [] clX9_167 rfl h1 (r_X9_blanks l g K n hJ hO a0 I74 J0 R0 z76 e77) ⟨rfl, rfl, Nat.le_of_ble_eq_true rfl, Nat.le_of_ble_eq_true rfl⟩ rfl hl.1 (Nat.le_of_ble_eq_true rfl) ⟨Nat.zero_le _, Nat.zero_le _⟩ dX9_statement_216 (fun H locs hw => ?_)
              refine W.eq (g2 := F0 m 219 ls []) rfl ?_
              refine lv_aload_n hx hb dX9_statement_219 rfl (lv_at hl 2 rfl) ?_
              refine mgi B hw flX9_161 rfl h1 dX9_statement_220 ?_
              refine lv_aload_n hx hb dX9_statement_223 rfl (lv_at hl 2 rfl) ?_
              refine mgi B hw flX9_164 rfl h1 dX9_statement_224 ?_
              refine lv_icmp_eq (tgt := 244) hx hb dX9_statement_227 (by decide) (fun c78 => ?_) (fun c78 => ?_)
              · replace hf := mT1 c78 hf
                refine lv_iconst (v := (0 : Int32)) hx hb dX9_statement_244 (by decide) ?_
                rw [hQm, ← Option.some.inj hf]
                exact mrz (v := false) hx hb hr hlk hw dX9_statement_245
              · replace hf := mF1 c78 hf
                refine lv_aload_n hx hb dX9_statement_230 rfl (lv_at hl 2 rfl) ?_
                obtain ⟨x79, e80, hf⟩ := mBind hf
                refine mgr B hw flX9_57 rfl h1 e80 dX9_statement_231 ?_
                refine lv_aload_n hx hb dX9_statement_234 rfl (lv_at hl 2 rfl) ?_
                refine mgi B hw flX9_161 rfl h1 dX9_statement_235 ?_
                obtain ⟨h81, hf⟩ := mChk hf
                refine mld2 B hw h81 dX9_statement_238 ?_
                refine lv_bipush (v := (59 : Int32)) hx hb dX9_statement_239 (by decide) ?_
                refine lv_icmp_eq (tgt := 246) hx hb dX9_statement_241 (by decide) (fun c82 => ?_) (fun c82 => ?_)
                · replace hf := mT1 c82 hf
                  refine lv_aload_n hx hb dX9_statement_246 rfl (lv_at hl 2 rfl) ?_
                  refine lv_dup hx hb dX9_statement_247 rfl ?_
                  refine mgi B hw flX9_161 rfl h1 dX9_statement_248 ?_
                  refine lv_iconst (v := (1 : Int32)) hx hb dX9_statement_251 (by decide) ?_
                  refine lv_iadd hx hb dX9_statement_252 ?_
                  obtain ⟨I83, e84, hf⟩ := mLet hf
                  refine mpi B hw puX9_161 rfl h1 dX9_statement_253 (fun H locs hw => ?_)
                  rw [← e84] at hw
                  refine lv_iconst (v := (1 : Int32)) hx hb dX9_statement_256 (by decide) ?_
                  rw [hQm, ← Option.some.inj hf]
                  exact mrz (v := true) hx hb hr hlk hw dX9_statement_257
                · replace hf := mF1 c82 hf
                  refine lv_iconst (v := (0 : Int32)) hx hb dX9_statement_244 (by decide) ?_
                  rw [hQm, ← Option.some.inj hf]
                  exact mrz (v := false) hx hb hr hlk hw dX9_statement_245
            · replace hf := mT1 c70 hf
              refine lv_iconst (v := (0 : Int32)) hx hb dX9_statement_200 (by decide) ?_
              rw [hQm, ← Option.some.inj hf]
              exact mrz (v := false) hx hb hr hlk hw dX9_statement_201
        · replace hf := mF1 c14 hf
          refine lv_bipush (v := (17 : Int32)) hx hb dX9_statement_110 (by decide) ?_
          refine lv_goto (tgt := 161) hx hb dX9_statement_112 (by decide) ?_
          refine lv_istore_n (lv' := [(2, .int (17 : Int32)), (1, .int (-1 : Int32)), (0, .ref (g.2.1 a0))]) hx hb dX9_statement_161 rfl hl (by decide) rfl (fun ls hl => ?_)
          refine lv_iload_n hx hb dX9_statement_162 rfl (lv_at hl 0 rfl) ?_
          refine lv_iconst (v := (-1 : Int32)) hx hb dX9_statement_163 (by decide) ?_
          refine lv_icmp_ne (tgt := 169) hx hb dX9_statement_164 (by decide) (fun _ => ?_) (fun c => absurd c (by decide))
          refine lv_aload_n hx hb dX9_statement_169 rfl (lv_at hl 2 rfl) ?_
          refine lv_iload_n hx hb dX9_statement_170 rfl (lv_at hl 0 rfl) ?_
          refine lv_bipush (v := (20 : Int32)) hx hb dX9_statement_171 (by decide) ?_
          refine lv_icmp_ne (tgt := 180) hx hb dX9_statement_173 (by decide) (fun _ => ?_) (fun c => absurd c (by decide))
          refine lv_iconst (v := (0 : Int32)) hx hb dX9_statement_180 (by decide) ?_
          refine lv_iload_n hx hb dX9_statement_181 rfl (lv_at hl 0 rfl) ?_
          refine lv_bipush (v := (20 : Int32)) hx hb dX9_statement_182 (by decide) ?_
          refine lv_icmp_ne (tgt := 191) hx hb dX9_statement_184 (by decide) (fun _ => ?_) (fun c => absurd c (by decide))
          refine lv_sipush (v := (999 : Int32)) hx hb dX9_statement_191 (by decide) ?_
          obtain ⟨z88, e89, hf⟩ := mBind hf
          refine mcallV (rest := []) (ci := 9) B hw [.int (0 : Int32), .int (999 : Int32)] clX9_190 rfl h1 (r_X9_takesNumber l g K n hJ hO a0 (0 : Int32) (999 : Int32) z12.2 J0 R0 z88 e89) ⟨rfl, rfl, Nat.le_of_ble_eq_true rfl, Nat.le_of_ble_eq_true rfl⟩ rfl hl.1 (Nat.le_of_ble_eq_true rfl) ⟨Nat.zero_le _, Nat.zero_le _⟩ dX9_statement_194 (fun H locs hw => ?_)
          refine W.eq (g2 := F0 m 197 ls [.int (mb z88.1)]) rfl ?_
          refine lv_if_ne (tgt := 202) hx hb dX9_statement_197 (by decide) (fun c90 => ?_) (fun c90 => ?_)
          · replace hf := mF1 c90 hf
            refine lv_aload_n hx hb dX9_statement_202 rfl (lv_at hl 2 rfl) ?_
            obtain ⟨x91, e92, hf⟩ := mBind hf
            refine mgr B hw flX9_50 rfl h1 e92 dX9_statement_203 ?_
            refine lv_bipush (v := (21 : Int32)) hx hb dX9_statement_206 (by decide) ?_
            refine lv_iload_n hx hb dX9_statement_208 rfl (lv_at hl 0 rfl) ?_
            refine lv_iadd hx hb dX9_statement_209 ?_
            refine lv_aload_n hx hb dX9_statement_210 rfl (lv_at hl 2 rfl) ?_
            refine mgi B hw flX9_177 rfl h1 dX9_statement_211 ?_
            obtain ⟨h93, hf⟩ := mChk hf
            obtain ⟨I94, e95, hf⟩ := mLet hf
            refine mst1 B hw h93 dX9_statement_214 (fun H locs hw => ?_)
            rw [← e95] at hw
            refine lv_aload_n hx hb dX9_statement_215 rfl (lv_at hl 2 rfl) ?_
            obtain ⟨z96, e97, hf⟩ := mBind hf
            refine mcallV (rest := []) (ci := 9) B hw [] clX9_167 rfl h1 (r_X9_blanks l g K n hJ hO a0 I94 J0 R0 z96 e97) ⟨rfl, rfl, Nat.le_of_ble_eq_true rfl, Nat.le_of_ble_eq_true rfl⟩ rfl hl.1 (Nat.le_of_ble_eq_true rfl) ⟨Nat.zero_le _, Nat.zero_le _⟩ dX9_statement_216 (fun H locs hw => ?_)
            refine W.eq (g2 := F0 m 219 ls []) rfl ?_
            refine lv_aload_n hx hb dX9_statement_219 rfl (lv_at hl 2 rfl) ?_
            refine mgi B hw flX9_161 rfl h1 dX9_statement_220 ?_
            refine lv_aload_n hx hb dX9_statement_223 rfl (lv_at hl 2 rfl) ?_
            refine mgi B hw flX9_164 rfl h1 dX9_statement_224 ?_
            refine lv_icmp_eq (tgt := 244) hx hb dX9_statement_227 (by decide) (fun c98 => ?_) (fun c98 => ?_)
            · replace hf := mT1 c98 hf
              refine lv_iconst (v := (0 : Int32)) hx hb dX9_statement_244 (by decide) ?_
              rw [hQm, ← Option.some.inj hf]
              exact mrz (v := false) hx hb hr hlk hw dX9_statement_245
            · replace hf := mF1 c98 hf
              refine lv_aload_n hx hb dX9_statement_230 rfl (lv_at hl 2 rfl) ?_
              obtain ⟨x99, e100, hf⟩ := mBind hf
              refine mgr B hw flX9_57 rfl h1 e100 dX9_statement_231 ?_
              refine lv_aload_n hx hb dX9_statement_234 rfl (lv_at hl 2 rfl) ?_
              refine mgi B hw flX9_161 rfl h1 dX9_statement_235 ?_
              obtain ⟨h101, hf⟩ := mChk hf
              refine mld2 B hw h101 dX9_statement_238 ?_
              refine lv_bipush (v := (59 : Int32)) hx hb dX9_statement_239 (by decide) ?_
              refine lv_icmp_eq (tgt := 246) hx hb dX9_statement_241 (by decide) (fun c102 => ?_) (fun c102 => ?_)
              · replace hf := mT1 c102 hf
                refine lv_aload_n hx hb dX9_statement_246 rfl (lv_at hl 2 rfl) ?_
                refine lv_dup hx hb dX9_statement_247 rfl ?_
                refine mgi B hw flX9_161 rfl h1 dX9_statement_248 ?_
                refine lv_iconst (v := (1 : Int32)) hx hb dX9_statement_251 (by decide) ?_
                refine lv_iadd hx hb dX9_statement_252 ?_
                obtain ⟨I103, e104, hf⟩ := mLet hf
                refine mpi B hw puX9_161 rfl h1 dX9_statement_253 (fun H locs hw => ?_)
                rw [← e104] at hw
                refine lv_iconst (v := (1 : Int32)) hx hb dX9_statement_256 (by decide) ?_
                rw [hQm, ← Option.some.inj hf]
                exact mrz (v := true) hx hb hr hlk hw dX9_statement_257
              · replace hf := mF1 c102 hf
                refine lv_iconst (v := (0 : Int32)) hx hb dX9_statement_244 (by decide) ?_
                rw [hQm, ← Option.some.inj hf]
                exact mrz (v := false) hx hb hr hlk hw dX9_statement_245
          · replace hf := mT1 c90 hf
            refine lv_iconst (v := (0 : Int32)) hx hb dX9_statement_200 (by decide) ?_
            rw [hQm, ← Option.some.inj hf]
            exact mrz (v := false) hx hb hr hlk hw dX9_statement_201
      · replace hf := mF1 c10 hf
        refine lv_bipush (v := (7 : Int32)) hx hb dX9_statement_38 (by decide) ?_
        refine lv_goto (tgt := 44) hx hb dX9_statement_40 (by decide) ?_
        refine lv_istore_n (lv' := [(1, .int (7 : Int32)), (0, .ref (g.2.1 a0))]) hx hb dX9_statement_44 rfl hl (by decide) rfl (fun ls hl => ?_)
        refine lv_iload_n hx hb dX9_statement_45 rfl (lv_at hl 0 rfl) ?_
        refine lv_iconst (v := (-1 : Int32)) hx hb dX9_statement_46 (by decide) ?_
        refine lv_icmp_eq (tgt := 100) hx hb dX9_statement_47 (by decide) (fun c => absurd c (by decide)) (fun _ => ?_)
        refine lv_aload_n hx hb dX9_statement_50 rfl (lv_at hl 1 rfl) ?_
        refine lv_iload_n hx hb dX9_statement_51 rfl (lv_at hl 0 rfl) ?_
        refine lv_iconst (v := (4 : Int32)) hx hb dX9_statement_52 (by decide) ?_
        refine lv_icmp_ne (tgt := 60) hx hb dX9_statement_53 (by decide) (fun _ => ?_) (fun c => absurd c (by decide))
        refine lv_iconst (v := (1 : Int32)) hx hb dX9_statement_60 (by decide) ?_
        refine lv_iload_n hx hb dX9_statement_61 rfl (lv_at hl 0 rfl) ?_
        refine lv_bipush (v := (7 : Int32)) hx hb dX9_statement_62 (by decide) ?_
        refine lv_icmp_ne (tgt := 72) hx hb dX9_statement_64 (by decide) (fun c => absurd (by decide) c) (fun _ => ?_)
        refine lv_bipush (v := (9 : Int32)) hx hb dX9_statement_67 (by decide) ?_
        refine lv_goto (tgt := 73) hx hb dX9_statement_69 (by decide) ?_
        obtain ⟨z108, e109, hf⟩ := mBind hf
        refine mcallV (rest := []) (ci := 9) B hw [.int (1 : Int32), .int (9 : Int32)] clX9_190 rfl h1 (r_X9_takesNumber l g K n hJ hO a0 (1 : Int32) (9 : Int32) z8.2 J0 R0 z108 e109) ⟨rfl, rfl, Nat.le_of_ble_eq_true rfl, Nat.le_of_ble_eq_true rfl⟩ rfl hl.1 (Nat.le_of_ble_eq_true rfl) ⟨Nat.zero_le _, Nat.zero_le _⟩ dX9_statement_73 (fun H locs hw => ?_)
        refine W.eq (g2 := F0 m 76 ls [.int (mb z108.1)]) rfl ?_
        refine lv_if_ne (tgt := 81) hx hb dX9_statement_76 (by decide) (fun c110 => ?_) (fun c110 => ?_)
        · replace hf := mF1 c110 hf
          refine lv_iload_n hx hb dX9_statement_81 rfl (lv_at hl 0 rfl) ?_
          refine lv_aload_n hx hb dX9_statement_82 rfl (lv_at hl 1 rfl) ?_
          refine mgi B hw flX9_177 rfl h1 dX9_statement_83 ?_
          refine lv_iadd hx hb dX9_statement_86 ?_
          refine lv_istore_n (lv' := [(2, .int ((7 : Int32) + (z108.2 a0 22))), (1, .int (7 : Int32)), (0, .ref (g.2.1 a0))]) hx hb dX9_statement_87 rfl hl (by decide) rfl (fun ls hl => ?_)
          refine lv_aload_n hx hb dX9_statement_88 rfl (lv_at hl 2 rfl) ?_
          refine lv_ldc2 (v := (26995 : Int64)) hx hb B.1.2.2.2.1 (B.1.2.2.2.2 (Cond.constantLong RX9 193 (26995 : Int64)) (mT_at 946 rfl rfl)) dX9_statement_89 ?_
          obtain ⟨z111, e112, hf⟩ := mBind hf
          refine mcallV (rest := []) (ci := 9) B hw [.long (26995 : Int64)] clX9_182 rfl h1 (r_X9_takes l g K n hJ hO a0 (26995 : Int64) z108.2 J0 R0 z111 e112) ⟨rfl, rfl, Nat.le_of_ble_eq_true rfl, Nat.le_of_ble_eq_true rfl⟩ rfl hl.1 (Nat.le_of_ble_eq_true rfl) ⟨Nat.zero_le _, Nat.zero_le _⟩ dX9_statement_92 (fun H locs hw => ?_)
          refine W.eq (g2 := F0 m 95 ls [.int (mb z111.1)]) rfl ?_
          refine lv_if_ne (tgt := 169) hx hb dX9_statement_95 (by decide) (fun c113 => ?_) (fun c113 => ?_)
          · replace hf := mF1 c113 hf
            refine lv_aload_n hx hb dX9_statement_169 rfl (lv_at hl 2 rfl) ?_
            refine lv_iload_n hx hb dX9_statement_170 rfl (lv_at hl 0 rfl) ?_
            refine lv_bipush (v := (20 : Int32)) hx hb dX9_statement_171 (by decide) ?_
            refine lv_icmp_ne (tgt := 180) hx hb dX9_statement_173 (by decide) (fun c114 => ?_) (fun c114 => ?_)
            · replace hf := mF1 c114 hf
              refine lv_iconst (v := (0 : Int32)) hx hb dX9_statement_180 (by decide) ?_
              refine lv_iload_n hx hb dX9_statement_181 rfl (lv_at hl 0 rfl) ?_
              refine lv_bipush (v := (20 : Int32)) hx hb dX9_statement_182 (by decide) ?_
              refine lv_icmp_ne (tgt := 191) hx hb dX9_statement_184 (by decide) (fun c115 => ?_) (fun c115 => ?_)
              · replace hf := mF1 c115 hf
                refine lv_sipush (v := (999 : Int32)) hx hb dX9_statement_191 (by decide) ?_
                obtain ⟨z116, e117, hf⟩ := mBind hf
                refine mcallV (rest := []) (ci := 9) B hw [.int (0 : Int32), .int (999 : Int32)] clX9_190 rfl h1 (r_X9_takesNumber l g K n hJ hO a0 (0 : Int32) (999 : Int32) z111.2 J0 R0 z116 e117) ⟨rfl, rfl, Nat.le_of_ble_eq_true rfl, Nat.le_of_ble_eq_true rfl⟩ rfl hl.1 (Nat.le_of_ble_eq_true rfl) ⟨Nat.zero_le _, Nat.zero_le _⟩ dX9_statement_194 (fun H locs hw => ?_)
                refine W.eq (g2 := F0 m 197 ls [.int (mb z116.1)]) rfl ?_
                refine lv_if_ne (tgt := 202) hx hb dX9_statement_197 (by decide) (fun c118 => ?_) (fun c118 => ?_)
                · replace hf := mF1 c118 hf
                  refine lv_aload_n hx hb dX9_statement_202 rfl (lv_at hl 2 rfl) ?_
                  obtain ⟨x119, e120, hf⟩ := mBind hf
                  refine mgr B hw flX9_50 rfl h1 e120 dX9_statement_203 ?_
                  refine lv_bipush (v := (21 : Int32)) hx hb dX9_statement_206 (by decide) ?_
                  refine lv_iload_n hx hb dX9_statement_208 rfl (lv_at hl 0 rfl) ?_
                  refine lv_iadd hx hb dX9_statement_209 ?_
                  refine lv_aload_n hx hb dX9_statement_210 rfl (lv_at hl 2 rfl) ?_
                  refine mgi B hw flX9_177 rfl h1 dX9_statement_211 ?_
                  obtain ⟨h121, hf⟩ := mChk hf
                  obtain ⟨I122, e123, hf⟩ := mLet hf
                  refine mst1 B hw h121 dX9_statement_214 (fun H locs hw => ?_)
                  rw [← e123] at hw
                  refine lv_aload_n hx hb dX9_statement_215 rfl (lv_at hl 2 rfl) ?_
                  obtain ⟨z124, e125, hf⟩ := mBind hf
                  refine mcallV (rest := []) (ci := 9) B hw [] clX9_167 rfl h1 (r_X9_blanks l g K n hJ hO a0 I122 J0 R0 z124 e125) ⟨rfl, rfl, Nat.le_of_ble_eq_true rfl, Nat.le_of_ble_eq_true rfl⟩ rfl hl.1 (Nat.le_of_ble_eq_true rfl) ⟨Nat.zero_le _, Nat.zero_le _⟩ dX9_statement_216 (fun H locs hw => ?_)
                  refine W.eq (g2 := F0 m 219 ls []) rfl ?_
                  refine lv_aload_n hx hb dX9_statement_219 rfl (lv_at hl 2 rfl) ?_
                  refine mgi B hw flX9_161 rfl h1 dX9_statement_220 ?_
                  refine lv_aload_n hx hb dX9_statement_223 rfl (lv_at hl 2 rfl) ?_
                  refine mgi B hw flX9_164 rfl h1 dX9_statement_224 ?_
                  refine lv_icmp_eq (tgt := 244) hx hb dX9_statement_227 (by decide) (fun c126 => ?_) (fun c126 => ?_)
                  · replace hf := mT1 c126 hf
                    refine lv_iconst (v := (0 : Int32)) hx hb dX9_statement_244 (by decide) ?_
                    rw [hQm, ← Option.some.inj hf]
                    exact mrz (v := false) hx hb hr hlk hw dX9_statement_245
                  · replace hf := mF1 c126 hf
                    refine lv_aload_n hx hb dX9_statement_230 rfl (lv_at hl 2 rfl) ?_
                    obtain ⟨x127, e128, hf⟩ := mBind hf
                    refine mgr B hw flX9_57 rfl h1 e128 dX9_statement_231 ?_
                    refine lv_aload_n hx hb dX9_statement_234 rfl (lv_at hl 2 rfl) ?_
                    refine mgi B hw flX9_161 rfl h1 dX9_statement_235 ?_
                    obtain ⟨h129, hf⟩ := mChk hf
                    refine mld2 B hw h129 dX9_statement_238 ?_
                    refine lv_bipush (v := (59 : Int32)) hx hb dX9_statement_239 (by decide) ?_
                    refine lv_icmp_eq (tgt := 246) hx hb dX9_statement_241 (by decide) (fun c130 => ?_) (fun c130 => ?_)
                    · replace hf := mT1 c130 hf
                      refine lv_aload_n hx hb dX9_statement_246 rfl (lv_at hl 2 rfl) ?_
                      refine lv_dup hx hb dX9_statement_247 rfl ?_
                      refine mgi B hw flX9_161 rfl h1 dX9_statement_248 ?_
                      refine lv_iconst (v := (1 : Int32)) hx hb dX9_statement_251 (by decide) ?_
                      refine lv_iadd hx hb dX9_statement_252 ?_
                      obtain ⟨I131, e132, hf⟩ := mLet hf
                      refine mpi B hw puX9_161 rfl h1 dX9_statement_253 (fun H locs hw => ?_)
                      rw [← e132] at hw
                      refine lv_iconst (v := (1 : Int32)) hx hb dX9_statement_256 (by decide) ?_
                      rw [hQm, ← Option.some.inj hf]
                      exact mrz (v := true) hx hb hr hlk hw dX9_statement_257
                    · replace hf := mF1 c130 hf
                      refine lv_iconst (v := (0 : Int32)) hx hb dX9_statement_244 (by decide) ?_
                      rw [hQm, ← Option.some.inj hf]
                      exact mrz (v := false) hx hb hr hlk hw dX9_statement_245
                · replace hf := mT1 c118 hf
                  refine lv_iconst (v := (0 : Int32)) hx hb dX9_statement_200 (by decide) ?_
                  rw [hQm, ← Option.some.inj hf]
                  exact mrz (v := false) hx hb hr hlk hw dX9_statement_201
              · replace hf := mT1 c115 hf
                refine lv_iconst (v := (5 : Int32)) hx hb dX9_statement_187 (by decide) ?_
                refine lv_goto (tgt := 194) hx hb dX9_statement_188 (by decide) ?_
                obtain ⟨z133, e134, hf⟩ := mBind hf
                refine mcallV (rest := []) (ci := 9) B hw [.int (0 : Int32), .int (5 : Int32)] clX9_190 rfl h1 (r_X9_takesNumber l g K n hJ hO a0 (0 : Int32) (5 : Int32) z111.2 J0 R0 z133 e134) ⟨rfl, rfl, Nat.le_of_ble_eq_true rfl, Nat.le_of_ble_eq_true rfl⟩ rfl hl.1 (Nat.le_of_ble_eq_true rfl) ⟨Nat.zero_le _, Nat.zero_le _⟩ dX9_statement_194 (fun H locs hw => ?_)
                refine W.eq (g2 := F0 m 197 ls [.int (mb z133.1)]) rfl ?_
                refine lv_if_ne (tgt := 202) hx hb dX9_statement_197 (by decide) (fun c135 => ?_) (fun c135 => ?_)
                · replace hf := mF1 c135 hf
                  refine lv_aload_n hx hb dX9_statement_202 rfl (lv_at hl 2 rfl) ?_
                  obtain ⟨x136, e137, hf⟩ := mBind hf
                  refine mgr B hw flX9_50 rfl h1 e137 dX9_statement_203 ?_
                  refine lv_bipush (v := (21 : Int32)) hx hb dX9_statement_206 (by decide) ?_
                  refine lv_iload_n hx hb dX9_statement_208 rfl (lv_at hl 0 rfl) ?_
                  refine lv_iadd hx hb dX9_statement_209 ?_
                  refine lv_aload_n hx hb dX9_statement_210 rfl (lv_at hl 2 rfl) ?_
                  refine mgi B hw flX9_177 rfl h1 dX9_statement_211 ?_
                  obtain ⟨h138, hf⟩ := mChk hf
                  obtain ⟨I139, e140, hf⟩ := mLet hf
                  refine mst1 B hw h138 dX9_statement_214 (fun H locs hw => ?_)
                  rw [← e140] at hw
                  refine lv_aload_n hx hb dX9_statement_215 rfl (lv_at hl 2 rfl) ?_
                  obtain ⟨z141, e142, hf⟩ := mBind hf
                  refine mcallV (rest := []) (ci := 9) B hw [] clX9_167 rfl h1 (r_X9_blanks l g K n hJ hO a0 I139 J0 R0 z141 e142) ⟨rfl, rfl, Nat.le_of_ble_eq_true rfl, Nat.le_of_ble_eq_true rfl⟩ rfl hl.1 (Nat.le_of_ble_eq_true rfl) ⟨Nat.zero_le _, Nat.zero_le _⟩ dX9_statement_216 (fun H locs hw => ?_)
                  refine W.eq (g2 := F0 m 219 ls []) rfl ?_
                  refine lv_aload_n hx hb dX9_statement_219 rfl (lv_at hl 2 rfl) ?_
                  refine mgi B hw flX9_161 rfl h1 dX9_statement_220 ?_
                  refine lv_aload_n hx hb dX9_statement_223 rfl (lv_at hl 2 rfl) ?_
                  refine mgi B hw flX9_164 rfl h1 dX9_statement_224 ?_
                  refine lv_icmp_eq (tgt := 244) hx hb dX9_statement_227 (by decide) (fun c143 => ?_) (fun c143 => ?_)
                  · replace hf := mT1 c143 hf
                    refine lv_iconst (v := (0 : Int32)) hx hb dX9_statement_244 (by decide) ?_
                    rw [hQm, ← Option.some.inj hf]
                    exact mrz (v := false) hx hb hr hlk hw dX9_statement_245
                  · replace hf := mF1 c143 hf
                    refine lv_aload_n hx hb dX9_statement_230 rfl (lv_at hl 2 rfl) ?_
                    obtain ⟨x144, e145, hf⟩ := mBind hf
                    refine mgr B hw flX9_57 rfl h1 e145 dX9_statement_231 ?_
                    refine lv_aload_n hx hb dX9_statement_234 rfl (lv_at hl 2 rfl) ?_
                    refine mgi B hw flX9_161 rfl h1 dX9_statement_235 ?_
                    obtain ⟨h146, hf⟩ := mChk hf
                    refine mld2 B hw h146 dX9_statement_238 ?_
                    refine lv_bipush (v := (59 : Int32)) hx hb dX9_statement_239 (by decide) ?_
                    refine lv_icmp_eq (tgt := 246) hx hb dX9_statement_241 (by decide) (fun c147 => ?_) (fun c147 => ?_)
                    · replace hf := mT1 c147 hf
                      refine lv_aload_n hx hb dX9_statement_246 rfl (lv_at hl 2 rfl) ?_
                      refine lv_dup hx hb dX9_statement_247 rfl ?_
                      refine mgi B hw flX9_161 rfl h1 dX9_statement_248 ?_
                      refine lv_iconst (v := (1 : Int32)) hx hb dX9_statement_251 (by decide) ?_
                      refine lv_iadd hx hb dX9_statement_252 ?_
                      obtain ⟨I148, e149, hf⟩ := mLet hf
                      refine mpi B hw puX9_161 rfl h1 dX9_statement_253 (fun H locs hw => ?_)
                      rw [← e149] at hw
                      refine lv_iconst (v := (1 : Int32)) hx hb dX9_statement_256 (by decide) ?_
                      rw [hQm, ← Option.some.inj hf]
                      exact mrz (v := true) hx hb hr hlk hw dX9_statement_257
                    · replace hf := mF1 c147 hf
                      refine lv_iconst (v := (0 : Int32)) hx hb dX9_statement_244 (by decide) ?_
                      rw [hQm, ← Option.some.inj hf]
                      exact mrz (v := false) hx hb hr hlk hw dX9_statement_245
                · replace hf := mT1 c135 hf
                  refine lv_iconst (v := (0 : Int32)) hx hb dX9_statement_200 (by decide) ?_
                  rw [hQm, ← Option.some.inj hf]
                  exact mrz (v := false) hx hb hr hlk hw dX9_statement_201
            · replace hf := mT1 c114 hf
              refine lv_iconst (v := (1 : Int32)) hx hb dX9_statement_176 (by decide) ?_
              refine lv_goto (tgt := 181) hx hb dX9_statement_177 (by decide) ?_
              refine lv_iload_n hx hb dX9_statement_181 rfl (lv_at hl 0 rfl) ?_
              refine lv_bipush (v := (20 : Int32)) hx hb dX9_statement_182 (by decide) ?_
              refine lv_icmp_ne (tgt := 191) hx hb dX9_statement_184 (by decide) (fun c150 => ?_) (fun c150 => ?_)
              · replace hf := mF1 c150 hf
                refine lv_sipush (v := (999 : Int32)) hx hb dX9_statement_191 (by decide) ?_
                obtain ⟨z151, e152, hf⟩ := mBind hf
                refine mcallV (rest := []) (ci := 9) B hw [.int (1 : Int32), .int (999 : Int32)] clX9_190 rfl h1 (r_X9_takesNumber l g K n hJ hO a0 (1 : Int32) (999 : Int32) z111.2 J0 R0 z151 e152) ⟨rfl, rfl, Nat.le_of_ble_eq_true rfl, Nat.le_of_ble_eq_true rfl⟩ rfl hl.1 (Nat.le_of_ble_eq_true rfl) ⟨Nat.zero_le _, Nat.zero_le _⟩ dX9_statement_194 (fun H locs hw => ?_)
                refine W.eq (g2 := F0 m 197 ls [.int (mb z151.1)]) rfl ?_
                refine lv_if_ne (tgt := 202) hx hb dX9_statement_197 (by decide) (fun c153 => ?_) (fun c153 => ?_)
                · replace hf := mF1 c153 hf
                  refine lv_aload_n hx hb dX9_statement_202 rfl (lv_at hl 2 rfl) ?_
                  obtain ⟨x154, e155, hf⟩ := mBind hf
                  refine mgr B hw flX9_50 rfl h1 e155 dX9_statement_203 ?_
                  refine lv_bipush (v := (21 : Int32)) hx hb dX9_statement_206 (by decide) ?_
                  refine lv_iload_n hx hb dX9_statement_208 rfl (lv_at hl 0 rfl) ?_
                  refine lv_iadd hx hb dX9_statement_209 ?_
                  refine lv_aload_n hx hb dX9_statement_210 rfl (lv_at hl 2 rfl) ?_
                  refine mgi B hw flX9_177 rfl h1 dX9_statement_211 ?_
                  obtain ⟨h156, hf⟩ := mChk hf
                  obtain ⟨I157, e158, hf⟩ := mLet hf
                  refine mst1 B hw h156 dX9_statement_214 (fun H locs hw => ?_)
                  rw [← e158] at hw
                  refine lv_aload_n hx hb dX9_statement_215 rfl (lv_at hl 2 rfl) ?_
                  obtain ⟨z159, e160, hf⟩ := mBind hf
                  refine mcallV (rest := []) (ci := 9) B hw [] clX9_167 rfl h1 (r_X9_blanks l g K n hJ hO a0 I157 J0 R0 z159 e160) ⟨rfl, rfl, Nat.le_of_ble_eq_true rfl, Nat.le_of_ble_eq_true rfl⟩ rfl hl.1 (Nat.le_of_ble_eq_true rfl) ⟨Nat.zero_le _, Nat.zero_le _⟩ dX9_statement_216 (fun H locs hw => ?_)
                  refine W.eq (g2 := F0 m 219 ls []) rfl ?_
                  refine lv_aload_n hx hb dX9_statement_219 rfl (lv_at hl 2 rfl) ?_
                  refine mgi B hw flX9_161 rfl h1 dX9_statement_220 ?_
                  refine lv_aload_n hx hb dX9_statement_223 rfl (lv_at hl 2 rfl) ?_
                  refine mgi B hw flX9_164 rfl h1 dX9_statement_224 ?_
                  refine lv_icmp_eq (tgt := 244) hx hb dX9_statement_227 (by decide) (fun c161 => ?_) (fun c161 => ?_)
                  · replace hf := mT1 c161 hf
                    refine lv_iconst (v := (0 : Int32)) hx hb dX9_statement_244 (by decide) ?_
                    rw [hQm, ← Option.some.inj hf]
                    exact mrz (v := false) hx hb hr hlk hw dX9_statement_245
                  · replace hf := mF1 c161 hf
                    refine lv_aload_n hx hb dX9_statement_230 rfl (lv_at hl 2 rfl) ?_
                    obtain ⟨x162, e163, hf⟩ := mBind hf
                    refine mgr B hw flX9_57 rfl h1 e163 dX9_statement_231 ?_
                    refine lv_aload_n hx hb dX9_statement_234 rfl (lv_at hl 2 rfl) ?_
                    refine mgi B hw flX9_161 rfl h1 dX9_statement_235 ?_
                    obtain ⟨h164, hf⟩ := mChk hf
                    refine mld2 B hw h164 dX9_statement_238 ?_
                    refine lv_bipush (v := (59 : Int32)) hx hb dX9_statement_239 (by decide) ?_
                    refine lv_icmp_eq (tgt := 246) hx hb dX9_statement_241 (by decide) (fun c165 => ?_) (fun c165 => ?_)
                    · replace hf := mT1 c165 hf
                      refine lv_aload_n hx hb dX9_statement_246 rfl (lv_at hl 2 rfl) ?_
                      refine lv_dup hx hb dX9_statement_247 rfl ?_
                      refine mgi B hw flX9_161 rfl h1 dX9_statement_248 ?_
                      refine lv_iconst (v := (1 : Int32)) hx hb dX9_statement_251 (by decide) ?_
                      refine lv_iadd hx hb dX9_statement_252 ?_
                      obtain ⟨I166, e167, hf⟩ := mLet hf
                      refine mpi B hw puX9_161 rfl h1 dX9_statement_253 (fun H locs hw => ?_)
                      rw [← e167] at hw
                      refine lv_iconst (v := (1 : Int32)) hx hb dX9_statement_256 (by decide) ?_
                      rw [hQm, ← Option.some.inj hf]
                      exact mrz (v := true) hx hb hr hlk hw dX9_statement_257
                    · replace hf := mF1 c165 hf
                      refine lv_iconst (v := (0 : Int32)) hx hb dX9_statement_244 (by decide) ?_
                      rw [hQm, ← Option.some.inj hf]
                      exact mrz (v := false) hx hb hr hlk hw dX9_statement_245
                · replace hf := mT1 c153 hf
                  refine lv_iconst (v := (0 : Int32)) hx hb dX9_statement_200 (by decide) ?_
                  rw [hQm, ← Option.some.inj hf]
                  exact mrz (v := false) hx hb hr hlk hw dX9_statement_201
              · replace hf := mT1 c150 hf
                refine lv_iconst (v := (5 : Int32)) hx hb dX9_statement_187 (by decide) ?_
                refine lv_goto (tgt := 194) hx hb dX9_statement_188 (by decide) ?_
                obtain ⟨z168, e169, hf⟩ := mBind hf
                refine mcallV (rest := []) (ci := 9) B hw [.int (1 : Int32), .int (5 : Int32)] clX9_190 rfl h1 (r_X9_takesNumber l g K n hJ hO a0 (1 : Int32) (5 : Int32) z111.2 J0 R0 z168 e169) ⟨rfl, rfl, Nat.le_of_ble_eq_true rfl, Nat.le_of_ble_eq_true rfl⟩ rfl hl.1 (Nat.le_of_ble_eq_true rfl) ⟨Nat.zero_le _, Nat.zero_le _⟩ dX9_statement_194 (fun H locs hw => ?_)
                refine W.eq (g2 := F0 m 197 ls [.int (mb z168.1)]) rfl ?_
                refine lv_if_ne (tgt := 202) hx hb dX9_statement_197 (by decide) (fun c170 => ?_) (fun c170 => ?_)
                · replace hf := mF1 c170 hf
                  refine lv_aload_n hx hb dX9_statement_202 rfl (lv_at hl 2 rfl) ?_
                  obtain ⟨x171, e172, hf⟩ := mBind hf
                  refine mgr B hw flX9_50 rfl h1 e172 dX9_statement_203 ?_
                  refine lv_bipush (v := (21 : Int32)) hx hb dX9_statement_206 (by decide) ?_
                  refine lv_iload_n hx hb dX9_statement_208 rfl (lv_at hl 0 rfl) ?_
                  refine lv_iadd hx hb dX9_statement_209 ?_
                  refine lv_aload_n hx hb dX9_statement_210 rfl (lv_at hl 2 rfl) ?_
                  refine mgi B hw flX9_177 rfl h1 dX9_statement_211 ?_
                  obtain ⟨h173, hf⟩ := mChk hf
                  obtain ⟨I174, e175, hf⟩ := mLet hf
                  refine mst1 B hw h173 dX9_statement_214 (fun H locs hw => ?_)
                  rw [← e175] at hw
                  refine lv_aload_n hx hb dX9_statement_215 rfl (lv_at hl 2 rfl) ?_
                  obtain ⟨z176, e177, hf⟩ := mBind hf
                  refine mcallV (rest := []) (ci := 9) B hw [] clX9_167 rfl h1 (r_X9_blanks l g K n hJ hO a0 I174 J0 R0 z176 e177) ⟨rfl, rfl, Nat.le_of_ble_eq_true rfl, Nat.le_of_ble_eq_true rfl⟩ rfl hl.1 (Nat.le_of_ble_eq_true rfl) ⟨Nat.zero_le _, Nat.zero_le _⟩ dX9_statement_216 (fun H locs hw => ?_)
                  refine W.eq (g2 := F0 m 219 ls []) rfl ?_
                  refine lv_aload_n hx hb dX9_statement_219 rfl (lv_at hl 2 rfl) ?_
                  refine mgi B hw flX9_161 rfl h1 dX9_statement_220 ?_
                  refine lv_aload_n hx hb dX9_statement_223 rfl (lv_at hl 2 rfl) ?_
                  refine mgi B hw flX9_164 rfl h1 dX9_statement_224 ?_
                  refine lv_icmp_eq (tgt := 244) hx hb dX9_statement_227 (by decide) (fun c178 => ?_) (fun c178 => ?_)
                  · replace hf := mT1 c178 hf
                    refine lv_iconst (v := (0 : Int32)) hx hb dX9_statement_244 (by decide) ?_
                    rw [hQm, ← Option.some.inj hf]
                    exact mrz (v := false) hx hb hr hlk hw dX9_statement_245
                  · replace hf := mF1 c178 hf
                    refine lv_aload_n hx hb dX9_statement_230 rfl (lv_at hl 2 rfl) ?_
                    obtain ⟨x179, e180, hf⟩ := mBind hf
                    refine mgr B hw flX9_57 rfl h1 e180 dX9_statement_231 ?_
                    refine lv_aload_n hx hb dX9_statement_234 rfl (lv_at hl 2 rfl) ?_
                    refine mgi B hw flX9_161 rfl h1 dX9_statement_235 ?_
                    obtain ⟨h181, hf⟩ := mChk hf
                    refine mld2 B hw h181 dX9_statement_238 ?_
                    refine lv_bipush (v := (59 : Int32)) hx hb dX9_statement_239 (by decide) ?_
                    refine lv_icmp_eq (tgt := 246) hx hb dX9_statement_241 (by decide) (fun c182 => ?_) (fun c182 => ?_)
                    · replace hf := mT1 c182 hf
                      refine lv_aload_n hx hb dX9_statement_246 rfl (lv_at hl 2 rfl) ?_
                      refine lv_dup hx hb dX9_statement_247 rfl ?_
                      refine mgi B hw flX9_161 rfl h1 dX9_statement_248 ?_
                      refine lv_iconst (v := (1 : Int32)) hx hb dX9_statement_251 (by decide) ?_
                      refine lv_iadd hx hb dX9_statement_252 ?_
                      obtain ⟨I183, e184, hf⟩ := mLet hf
                      refine mpi B hw puX9_161 rfl h1 dX9_statement_253 (fun H locs hw => ?_)
                      rw [← e184] at hw
                      refine lv_iconst (v := (1 : Int32)) hx hb dX9_statement_256 (by decide) ?_
                      rw [hQm, ← Option.some.inj hf]
                      exact mrz (v := true) hx hb hr hlk hw dX9_statement_257
                    · replace hf := mF1 c182 hf
                      refine lv_iconst (v := (0 : Int32)) hx hb dX9_statement_244 (by decide) ?_
                      rw [hQm, ← Option.some.inj hf]
                      exact mrz (v := false) hx hb hr hlk hw dX9_statement_245
                · replace hf := mT1 c170 hf
                  refine lv_iconst (v := (0 : Int32)) hx hb dX9_statement_200 (by decide) ?_
                  rw [hQm, ← Option.some.inj hf]
                  exact mrz (v := false) hx hb hr hlk hw dX9_statement_201
          · replace hf := mT1 c113 hf
            refine lv_iconst (v := (0 : Int32)) hx hb dX9_statement_98 (by decide) ?_
            rw [hQm, ← Option.some.inj hf]
            exact mrz (v := false) hx hb hr hlk hw dX9_statement_99
        · replace hf := mT1 c110 hf
          refine lv_iconst (v := (0 : Int32)) hx hb dX9_statement_79 (by decide) ?_
          rw [hQm, ← Option.some.inj hf]
          exact mrz (v := false) hx hb hr hlk hw dX9_statement_80
    · replace hf := mF1 c7 hf
      refine lv_iconst (v := (4 : Int32)) hx hb dX9_statement_24 (by decide) ?_
      refine lv_goto (tgt := 44) hx hb dX9_statement_25 (by decide) ?_
      refine lv_istore_n (lv' := [(1, .int (4 : Int32)), (0, .ref (g.2.1 a0))]) hx hb dX9_statement_44 rfl hl (by decide) rfl (fun ls hl => ?_)
      refine lv_iload_n hx hb dX9_statement_45 rfl (lv_at hl 0 rfl) ?_
      refine lv_iconst (v := (-1 : Int32)) hx hb dX9_statement_46 (by decide) ?_
      refine lv_icmp_eq (tgt := 100) hx hb dX9_statement_47 (by decide) (fun c => absurd c (by decide)) (fun _ => ?_)
      refine lv_aload_n hx hb dX9_statement_50 rfl (lv_at hl 1 rfl) ?_
      refine lv_iload_n hx hb dX9_statement_51 rfl (lv_at hl 0 rfl) ?_
      refine lv_iconst (v := (4 : Int32)) hx hb dX9_statement_52 (by decide) ?_
      refine lv_icmp_ne (tgt := 60) hx hb dX9_statement_53 (by decide) (fun c => absurd (by decide) c) (fun _ => ?_)
      refine lv_iconst (v := (0 : Int32)) hx hb dX9_statement_56 (by decide) ?_
      refine lv_goto (tgt := 61) hx hb dX9_statement_57 (by decide) ?_
      refine lv_iload_n hx hb dX9_statement_61 rfl (lv_at hl 0 rfl) ?_
      refine lv_bipush (v := (7 : Int32)) hx hb dX9_statement_62 (by decide) ?_
      refine lv_icmp_ne (tgt := 72) hx hb dX9_statement_64 (by decide) (fun _ => ?_) (fun c => absurd c (by decide))
      refine lv_iconst (v := (3 : Int32)) hx hb dX9_statement_72 (by decide) ?_
      obtain ⟨z188, e189, hf⟩ := mBind hf
      refine mcallV (rest := []) (ci := 9) B hw [.int (0 : Int32), .int (3 : Int32)] clX9_190 rfl h1 (r_X9_takesNumber l g K n hJ hO a0 (0 : Int32) (3 : Int32) z5.2 J0 R0 z188 e189) ⟨rfl, rfl, Nat.le_of_ble_eq_true rfl, Nat.le_of_ble_eq_true rfl⟩ rfl hl.1 (Nat.le_of_ble_eq_true rfl) ⟨Nat.zero_le _, Nat.zero_le _⟩ dX9_statement_73 (fun H locs hw => ?_)
      refine W.eq (g2 := F0 m 76 ls [.int (mb z188.1)]) rfl ?_
      refine lv_if_ne (tgt := 81) hx hb dX9_statement_76 (by decide) (fun c190 => ?_) (fun c190 => ?_)
      · replace hf := mF1 c190 hf
        refine lv_iload_n hx hb dX9_statement_81 rfl (lv_at hl 0 rfl) ?_
        refine lv_aload_n hx hb dX9_statement_82 rfl (lv_at hl 1 rfl) ?_
        refine mgi B hw flX9_177 rfl h1 dX9_statement_83 ?_
        refine lv_iadd hx hb dX9_statement_86 ?_
        refine lv_istore_n (lv' := [(2, .int ((4 : Int32) + (z188.2 a0 22))), (1, .int (4 : Int32)), (0, .ref (g.2.1 a0))]) hx hb dX9_statement_87 rfl hl (by decide) rfl (fun ls hl => ?_)
        refine lv_aload_n hx hb dX9_statement_88 rfl (lv_at hl 2 rfl) ?_
        refine lv_ldc2 (v := (26995 : Int64)) hx hb B.1.2.2.2.1 (B.1.2.2.2.2 (Cond.constantLong RX9 193 (26995 : Int64)) (mT_at 946 rfl rfl)) dX9_statement_89 ?_
        obtain ⟨z191, e192, hf⟩ := mBind hf
        refine mcallV (rest := []) (ci := 9) B hw [.long (26995 : Int64)] clX9_182 rfl h1 (r_X9_takes l g K n hJ hO a0 (26995 : Int64) z188.2 J0 R0 z191 e192) ⟨rfl, rfl, Nat.le_of_ble_eq_true rfl, Nat.le_of_ble_eq_true rfl⟩ rfl hl.1 (Nat.le_of_ble_eq_true rfl) ⟨Nat.zero_le _, Nat.zero_le _⟩ dX9_statement_92 (fun H locs hw => ?_)
        refine W.eq (g2 := F0 m 95 ls [.int (mb z191.1)]) rfl ?_
        refine lv_if_ne (tgt := 169) hx hb dX9_statement_95 (by decide) (fun c193 => ?_) (fun c193 => ?_)
        · replace hf := mF1 c193 hf
          refine lv_aload_n hx hb dX9_statement_169 rfl (lv_at hl 2 rfl) ?_
          refine lv_iload_n hx hb dX9_statement_170 rfl (lv_at hl 0 rfl) ?_
          refine lv_bipush (v := (20 : Int32)) hx hb dX9_statement_171 (by decide) ?_
          refine lv_icmp_ne (tgt := 180) hx hb dX9_statement_173 (by decide) (fun c194 => ?_) (fun c194 => ?_)
          · replace hf := mF1 c194 hf
            refine lv_iconst (v := (0 : Int32)) hx hb dX9_statement_180 (by decide) ?_
            refine lv_iload_n hx hb dX9_statement_181 rfl (lv_at hl 0 rfl) ?_
            refine lv_bipush (v := (20 : Int32)) hx hb dX9_statement_182 (by decide) ?_
            refine lv_icmp_ne (tgt := 191) hx hb dX9_statement_184 (by decide) (fun c195 => ?_) (fun c195 => ?_)
            · replace hf := mF1 c195 hf
              refine lv_sipush (v := (999 : Int32)) hx hb dX9_statement_191 (by decide) ?_
              obtain ⟨z196, e197, hf⟩ := mBind hf
              refine mcallV (rest := []) (ci := 9) B hw [.int (0 : Int32), .int (999 : Int32)] clX9_190 rfl h1 (r_X9_takesNumber l g K n hJ hO a0 (0 : Int32) (999 : Int32) z191.2 J0 R0 z196 e197) ⟨rfl, rfl, Nat.le_of_ble_eq_true rfl, Nat.le_of_ble_eq_true rfl⟩ rfl hl.1 (Nat.le_of_ble_eq_true rfl) ⟨Nat.zero_le _, Nat.zero_le _⟩ dX9_statement_194 (fun H locs hw => ?_)
              refine W.eq (g2 := F0 m 197 ls [.int (mb z196.1)]) rfl ?_
              refine lv_if_ne (tgt := 202) hx hb dX9_statement_197 (by decide) (fun c198 => ?_) (fun c198 => ?_)
              · replace hf := mF1 c198 hf
                refine lv_aload_n hx hb dX9_statement_202 rfl (lv_at hl 2 rfl) ?_
                obtain ⟨x199, e200, hf⟩ := mBind hf
                refine mgr B hw flX9_50 rfl h1 e200 dX9_statement_203 ?_
                refine lv_bipush (v := (21 : Int32)) hx hb dX9_statement_206 (by decide) ?_
                refine lv_iload_n hx hb dX9_statement_208 rfl (lv_at hl 0 rfl) ?_
                refine lv_iadd hx hb dX9_statement_209 ?_
                refine lv_aload_n hx hb dX9_statement_210 rfl (lv_at hl 2 rfl) ?_
                refine mgi B hw flX9_177 rfl h1 dX9_statement_211 ?_
                obtain ⟨h201, hf⟩ := mChk hf
                obtain ⟨I202, e203, hf⟩ := mLet hf
                refine mst1 B hw h201 dX9_statement_214 (fun H locs hw => ?_)
                rw [← e203] at hw
                refine lv_aload_n hx hb dX9_statement_215 rfl (lv_at hl 2 rfl) ?_
                obtain ⟨z204, e205, hf⟩ := mBind hf
                refine mcallV (rest := []) (ci := 9) B hw [] clX9_167 rfl h1 (r_X9_blanks l g K n hJ hO a0 I202 J0 R0 z204 e205) ⟨rfl, rfl, Nat.le_of_ble_eq_true rfl, Nat.le_of_ble_eq_true rfl⟩ rfl hl.1 (Nat.le_of_ble_eq_true rfl) ⟨Nat.zero_le _, Nat.zero_le _⟩ dX9_statement_216 (fun H locs hw => ?_)
                refine W.eq (g2 := F0 m 219 ls []) rfl ?_
                refine lv_aload_n hx hb dX9_statement_219 rfl (lv_at hl 2 rfl) ?_
                refine mgi B hw flX9_161 rfl h1 dX9_statement_220 ?_
                refine lv_aload_n hx hb dX9_statement_223 rfl (lv_at hl 2 rfl) ?_
                refine mgi B hw flX9_164 rfl h1 dX9_statement_224 ?_
                refine lv_icmp_eq (tgt := 244) hx hb dX9_statement_227 (by decide) (fun c206 => ?_) (fun c206 => ?_)
                · replace hf := mT1 c206 hf
                  refine lv_iconst (v := (0 : Int32)) hx hb dX9_statement_244 (by decide) ?_
                  rw [hQm, ← Option.some.inj hf]
                  exact mrz (v := false) hx hb hr hlk hw dX9_statement_245
                · replace hf := mF1 c206 hf
                  refine lv_aload_n hx hb dX9_statement_230 rfl (lv_at hl 2 rfl) ?_
                  obtain ⟨x207, e208, hf⟩ := mBind hf
                  refine mgr B hw flX9_57 rfl h1 e208 dX9_statement_231 ?_
                  refine lv_aload_n hx hb dX9_statement_234 rfl (lv_at hl 2 rfl) ?_
                  refine mgi B hw flX9_161 rfl h1 dX9_statement_235 ?_
                  obtain ⟨h209, hf⟩ := mChk hf
                  refine mld2 B hw h209 dX9_statement_238 ?_
                  refine lv_bipush (v := (59 : Int32)) hx hb dX9_statement_239 (by decide) ?_
                  refine lv_icmp_eq (tgt := 246) hx hb dX9_statement_241 (by decide) (fun c210 => ?_) (fun c210 => ?_)
                  · replace hf := mT1 c210 hf
                    refine lv_aload_n hx hb dX9_statement_246 rfl (lv_at hl 2 rfl) ?_
                    refine lv_dup hx hb dX9_statement_247 rfl ?_
                    refine mgi B hw flX9_161 rfl h1 dX9_statement_248 ?_
                    refine lv_iconst (v := (1 : Int32)) hx hb dX9_statement_251 (by decide) ?_
                    refine lv_iadd hx hb dX9_statement_252 ?_
                    obtain ⟨I211, e212, hf⟩ := mLet hf
                    refine mpi B hw puX9_161 rfl h1 dX9_statement_253 (fun H locs hw => ?_)
                    rw [← e212] at hw
                    refine lv_iconst (v := (1 : Int32)) hx hb dX9_statement_256 (by decide) ?_
                    rw [hQm, ← Option.some.inj hf]
                    exact mrz (v := true) hx hb hr hlk hw dX9_statement_257
                  · replace hf := mF1 c210 hf
                    refine lv_iconst (v := (0 : Int32)) hx hb dX9_statement_244 (by decide) ?_
                    rw [hQm, ← Option.some.inj hf]
                    exact mrz (v := false) hx hb hr hlk hw dX9_statement_245
              · replace hf := mT1 c198 hf
                refine lv_iconst (v := (0 : Int32)) hx hb dX9_statement_200 (by decide) ?_
                rw [hQm, ← Option.some.inj hf]
                exact mrz (v := false) hx hb hr hlk hw dX9_statement_201
            · replace hf := mT1 c195 hf
              refine lv_iconst (v := (5 : Int32)) hx hb dX9_statement_187 (by decide) ?_
              refine lv_goto (tgt := 194) hx hb dX9_statement_188 (by decide) ?_
              obtain ⟨z213, e214, hf⟩ := mBind hf
              refine mcallV (rest := []) (ci := 9) B hw [.int (0 : Int32), .int (5 : Int32)] clX9_190 rfl h1 (r_X9_takesNumber l g K n hJ hO a0 (0 : Int32) (5 : Int32) z191.2 J0 R0 z213 e214) ⟨rfl, rfl, Nat.le_of_ble_eq_true rfl, Nat.le_of_ble_eq_true rfl⟩ rfl hl.1 (Nat.le_of_ble_eq_true rfl) ⟨Nat.zero_le _, Nat.zero_le _⟩ dX9_statement_194 (fun H locs hw => ?_)
              refine W.eq (g2 := F0 m 197 ls [.int (mb z213.1)]) rfl ?_
              refine lv_if_ne (tgt := 202) hx hb dX9_statement_197 (by decide) (fun c215 => ?_) (fun c215 => ?_)
              · replace hf := mF1 c215 hf
                refine lv_aload_n hx hb dX9_statement_202 rfl (lv_at hl 2 rfl) ?_
                obtain ⟨x216, e217, hf⟩ := mBind hf
                refine mgr B hw flX9_50 rfl h1 e217 dX9_statement_203 ?_
                refine lv_bipush (v := (21 : Int32)) hx hb dX9_statement_206 (by decide) ?_
                refine lv_iload_n hx hb dX9_statement_208 rfl (lv_at hl 0 rfl) ?_
                refine lv_iadd hx hb dX9_statement_209 ?_
                refine lv_aload_n hx hb dX9_statement_210 rfl (lv_at hl 2 rfl) ?_
                refine mgi B hw flX9_177 rfl h1 dX9_statement_211 ?_
                obtain ⟨h218, hf⟩ := mChk hf
                obtain ⟨I219, e220, hf⟩ := mLet hf
                refine mst1 B hw h218 dX9_statement_214 (fun H locs hw => ?_)
                rw [← e220] at hw
                refine lv_aload_n hx hb dX9_statement_215 rfl (lv_at hl 2 rfl) ?_
                obtain ⟨z221, e222, hf⟩ := mBind hf
                refine mcallV (rest := []) (ci := 9) B hw [] clX9_167 rfl h1 (r_X9_blanks l g K n hJ hO a0 I219 J0 R0 z221 e222) ⟨rfl, rfl, Nat.le_of_ble_eq_true rfl, Nat.le_of_ble_eq_true rfl⟩ rfl hl.1 (Nat.le_of_ble_eq_true rfl) ⟨Nat.zero_le _, Nat.zero_le _⟩ dX9_statement_216 (fun H locs hw => ?_)
                refine W.eq (g2 := F0 m 219 ls []) rfl ?_
                refine lv_aload_n hx hb dX9_statement_219 rfl (lv_at hl 2 rfl) ?_
                refine mgi B hw flX9_161 rfl h1 dX9_statement_220 ?_
                refine lv_aload_n hx hb dX9_statement_223 rfl (lv_at hl 2 rfl) ?_
                refine mgi B hw flX9_164 rfl h1 dX9_statement_224 ?_
                refine lv_icmp_eq (tgt := 244) hx hb dX9_statement_227 (by decide) (fun c223 => ?_) (fun c223 => ?_)
                · replace hf := mT1 c223 hf
                  refine lv_iconst (v := (0 : Int32)) hx hb dX9_statement_244 (by decide) ?_
                  rw [hQm, ← Option.some.inj hf]
                  exact mrz (v := false) hx hb hr hlk hw dX9_statement_245
                · replace hf := mF1 c223 hf
                  refine lv_aload_n hx hb dX9_statement_230 rfl (lv_at hl 2 rfl) ?_
                  obtain ⟨x224, e225, hf⟩ := mBind hf
                  refine mgr B hw flX9_57 rfl h1 e225 dX9_statement_231 ?_
                  refine lv_aload_n hx hb dX9_statement_234 rfl (lv_at hl 2 rfl) ?_
                  refine mgi B hw flX9_161 rfl h1 dX9_statement_235 ?_
                  obtain ⟨h226, hf⟩ := mChk hf
                  refine mld2 B hw h226 dX9_statement_238 ?_
                  refine lv_bipush (v := (59 : Int32)) hx hb dX9_statement_239 (by decide) ?_
                  refine lv_icmp_eq (tgt := 246) hx hb dX9_statement_241 (by decide) (fun c227 => ?_) (fun c227 => ?_)
                  · replace hf := mT1 c227 hf
                    refine lv_aload_n hx hb dX9_statement_246 rfl (lv_at hl 2 rfl) ?_
                    refine lv_dup hx hb dX9_statement_247 rfl ?_
                    refine mgi B hw flX9_161 rfl h1 dX9_statement_248 ?_
                    refine lv_iconst (v := (1 : Int32)) hx hb dX9_statement_251 (by decide) ?_
                    refine lv_iadd hx hb dX9_statement_252 ?_
                    obtain ⟨I228, e229, hf⟩ := mLet hf
                    refine mpi B hw puX9_161 rfl h1 dX9_statement_253 (fun H locs hw => ?_)
                    rw [← e229] at hw
                    refine lv_iconst (v := (1 : Int32)) hx hb dX9_statement_256 (by decide) ?_
                    rw [hQm, ← Option.some.inj hf]
                    exact mrz (v := true) hx hb hr hlk hw dX9_statement_257
                  · replace hf := mF1 c227 hf
                    refine lv_iconst (v := (0 : Int32)) hx hb dX9_statement_244 (by decide) ?_
                    rw [hQm, ← Option.some.inj hf]
                    exact mrz (v := false) hx hb hr hlk hw dX9_statement_245
              · replace hf := mT1 c215 hf
                refine lv_iconst (v := (0 : Int32)) hx hb dX9_statement_200 (by decide) ?_
                rw [hQm, ← Option.some.inj hf]
                exact mrz (v := false) hx hb hr hlk hw dX9_statement_201
          · replace hf := mT1 c194 hf
            refine lv_iconst (v := (1 : Int32)) hx hb dX9_statement_176 (by decide) ?_
            refine lv_goto (tgt := 181) hx hb dX9_statement_177 (by decide) ?_
            refine lv_iload_n hx hb dX9_statement_181 rfl (lv_at hl 0 rfl) ?_
            refine lv_bipush (v := (20 : Int32)) hx hb dX9_statement_182 (by decide) ?_
            refine lv_icmp_ne (tgt := 191) hx hb dX9_statement_184 (by decide) (fun c230 => ?_) (fun c230 => ?_)
            · replace hf := mF1 c230 hf
              refine lv_sipush (v := (999 : Int32)) hx hb dX9_statement_191 (by decide) ?_
              obtain ⟨z231, e232, hf⟩ := mBind hf
              refine mcallV (rest := []) (ci := 9) B hw [.int (1 : Int32), .int (999 : Int32)] clX9_190 rfl h1 (r_X9_takesNumber l g K n hJ hO a0 (1 : Int32) (999 : Int32) z191.2 J0 R0 z231 e232) ⟨rfl, rfl, Nat.le_of_ble_eq_true rfl, Nat.le_of_ble_eq_true rfl⟩ rfl hl.1 (Nat.le_of_ble_eq_true rfl) ⟨Nat.zero_le _, Nat.zero_le _⟩ dX9_statement_194 (fun H locs hw => ?_)
              refine W.eq (g2 := F0 m 197 ls [.int (mb z231.1)]) rfl ?_
              refine lv_if_ne (tgt := 202) hx hb dX9_statement_197 (by decide) (fun c233 => ?_) (fun c233 => ?_)
              · replace hf := mF1 c233 hf
                refine lv_aload_n hx hb dX9_statement_202 rfl (lv_at hl 2 rfl) ?_
                obtain ⟨x234, e235, hf⟩ := mBind hf
                refine mgr B hw flX9_50 rfl h1 e235 dX9_statement_203 ?_
                refine lv_bipush (v := (21 : Int32)) hx hb dX9_statement_206 (by decide) ?_
                refine lv_iload_n hx hb dX9_statement_208 rfl (lv_at hl 0 rfl) ?_
                refine lv_iadd hx hb dX9_statement_209 ?_
                refine lv_aload_n hx hb dX9_statement_210 rfl (lv_at hl 2 rfl) ?_
                refine mgi B hw flX9_177 rfl h1 dX9_statement_211 ?_
                obtain ⟨h236, hf⟩ := mChk hf
                obtain ⟨I237, e238, hf⟩ := mLet hf
                refine mst1 B hw h236 dX9_statement_214 (fun H locs hw => ?_)
                rw [← e238] at hw
                refine lv_aload_n hx hb dX9_statement_215 rfl (lv_at hl 2 rfl) ?_
                obtain ⟨z239, e240, hf⟩ := mBind hf
                refine mcallV (rest := []) (ci := 9) B hw [] clX9_167 rfl h1 (r_X9_blanks l g K n hJ hO a0 I237 J0 R0 z239 e240) ⟨rfl, rfl, Nat.le_of_ble_eq_true rfl, Nat.le_of_ble_eq_true rfl⟩ rfl hl.1 (Nat.le_of_ble_eq_true rfl) ⟨Nat.zero_le _, Nat.zero_le _⟩ dX9_statement_216 (fun H locs hw => ?_)
                refine W.eq (g2 := F0 m 219 ls []) rfl ?_
                refine lv_aload_n hx hb dX9_statement_219 rfl (lv_at hl 2 rfl) ?_
                refine mgi B hw flX9_161 rfl h1 dX9_statement_220 ?_
                refine lv_aload_n hx hb dX9_statement_223 rfl (lv_at hl 2 rfl) ?_
                refine mgi B hw flX9_164 rfl h1 dX9_statement_224 ?_
                refine lv_icmp_eq (tgt := 244) hx hb dX9_statement_227 (by decide) (fun c241 => ?_) (fun c241 => ?_)
                · replace hf := mT1 c241 hf
                  refine lv_iconst (v := (0 : Int32)) hx hb dX9_statement_244 (by decide) ?_
                  rw [hQm, ← Option.some.inj hf]
                  exact mrz (v := false) hx hb hr hlk hw dX9_statement_245
                · replace hf := mF1 c241 hf
                  refine lv_aload_n hx hb dX9_statement_230 rfl (lv_at hl 2 rfl) ?_
                  obtain ⟨x242, e243, hf⟩ := mBind hf
                  refine mgr B hw flX9_57 rfl h1 e243 dX9_statement_231 ?_
                  refine lv_aload_n hx hb dX9_statement_234 rfl (lv_at hl 2 rfl) ?_
                  refine mgi B hw flX9_161 rfl h1 dX9_statement_235 ?_
                  obtain ⟨h244, hf⟩ := mChk hf
                  refine mld2 B hw h244 dX9_statement_238 ?_
                  refine lv_bipush (v := (59 : Int32)) hx hb dX9_statement_239 (by decide) ?_
                  refine lv_icmp_eq (tgt := 246) hx hb dX9_statement_241 (by decide) (fun c245 => ?_) (fun c245 => ?_)
                  · replace hf := mT1 c245 hf
                    refine lv_aload_n hx hb dX9_statement_246 rfl (lv_at hl 2 rfl) ?_
                    refine lv_dup hx hb dX9_statement_247 rfl ?_
                    refine mgi B hw flX9_161 rfl h1 dX9_statement_248 ?_
                    refine lv_iconst (v := (1 : Int32)) hx hb dX9_statement_251 (by decide) ?_
                    refine lv_iadd hx hb dX9_statement_252 ?_
                    obtain ⟨I246, e247, hf⟩ := mLet hf
                    refine mpi B hw puX9_161 rfl h1 dX9_statement_253 (fun H locs hw => ?_)
                    rw [← e247] at hw
                    refine lv_iconst (v := (1 : Int32)) hx hb dX9_statement_256 (by decide) ?_
                    rw [hQm, ← Option.some.inj hf]
                    exact mrz (v := true) hx hb hr hlk hw dX9_statement_257
                  · replace hf := mF1 c245 hf
                    refine lv_iconst (v := (0 : Int32)) hx hb dX9_statement_244 (by decide) ?_
                    rw [hQm, ← Option.some.inj hf]
                    exact mrz (v := false) hx hb hr hlk hw dX9_statement_245
              · replace hf := mT1 c233 hf
                refine lv_iconst (v := (0 : Int32)) hx hb dX9_statement_200 (by decide) ?_
                rw [hQm, ← Option.some.inj hf]
                exact mrz (v := false) hx hb hr hlk hw dX9_statement_201
            · replace hf := mT1 c230 hf
              refine lv_iconst (v := (5 : Int32)) hx hb dX9_statement_187 (by decide) ?_
              refine lv_goto (tgt := 194) hx hb dX9_statement_188 (by decide) ?_
              obtain ⟨z248, e249, hf⟩ := mBind hf
              refine mcallV (rest := []) (ci := 9) B hw [.int (1 : Int32), .int (5 : Int32)] clX9_190 rfl h1 (r_X9_takesNumber l g K n hJ hO a0 (1 : Int32) (5 : Int32) z191.2 J0 R0 z248 e249) ⟨rfl, rfl, Nat.le_of_ble_eq_true rfl, Nat.le_of_ble_eq_true rfl⟩ rfl hl.1 (Nat.le_of_ble_eq_true rfl) ⟨Nat.zero_le _, Nat.zero_le _⟩ dX9_statement_194 (fun H locs hw => ?_)
              refine W.eq (g2 := F0 m 197 ls [.int (mb z248.1)]) rfl ?_
              refine lv_if_ne (tgt := 202) hx hb dX9_statement_197 (by decide) (fun c250 => ?_) (fun c250 => ?_)
              · replace hf := mF1 c250 hf
                refine lv_aload_n hx hb dX9_statement_202 rfl (lv_at hl 2 rfl) ?_
                obtain ⟨x251, e252, hf⟩ := mBind hf
                refine mgr B hw flX9_50 rfl h1 e252 dX9_statement_203 ?_
                refine lv_bipush (v := (21 : Int32)) hx hb dX9_statement_206 (by decide) ?_
                refine lv_iload_n hx hb dX9_statement_208 rfl (lv_at hl 0 rfl) ?_
                refine lv_iadd hx hb dX9_statement_209 ?_
                refine lv_aload_n hx hb dX9_statement_210 rfl (lv_at hl 2 rfl) ?_
                refine mgi B hw flX9_177 rfl h1 dX9_statement_211 ?_
                obtain ⟨h253, hf⟩ := mChk hf
                obtain ⟨I254, e255, hf⟩ := mLet hf
                refine mst1 B hw h253 dX9_statement_214 (fun H locs hw => ?_)
                rw [← e255] at hw
                refine lv_aload_n hx hb dX9_statement_215 rfl (lv_at hl 2 rfl) ?_
                obtain ⟨z256, e257, hf⟩ := mBind hf
                refine mcallV (rest := []) (ci := 9) B hw [] clX9_167 rfl h1 (r_X9_blanks l g K n hJ hO a0 I254 J0 R0 z256 e257) ⟨rfl, rfl, Nat.le_of_ble_eq_true rfl, Nat.le_of_ble_eq_true rfl⟩ rfl hl.1 (Nat.le_of_ble_eq_true rfl) ⟨Nat.zero_le _, Nat.zero_le _⟩ dX9_statement_216 (fun H locs hw => ?_)
                refine W.eq (g2 := F0 m 219 ls []) rfl ?_
                refine lv_aload_n hx hb dX9_statement_219 rfl (lv_at hl 2 rfl) ?_
                refine mgi B hw flX9_161 rfl h1 dX9_statement_220 ?_
                refine lv_aload_n hx hb dX9_statement_223 rfl (lv_at hl 2 rfl) ?_
                refine mgi B hw flX9_164 rfl h1 dX9_statement_224 ?_
                refine lv_icmp_eq (tgt := 244) hx hb dX9_statement_227 (by decide) (fun c258 => ?_) (fun c258 => ?_)
                · replace hf := mT1 c258 hf
                  refine lv_iconst (v := (0 : Int32)) hx hb dX9_statement_244 (by decide) ?_
                  rw [hQm, ← Option.some.inj hf]
                  exact mrz (v := false) hx hb hr hlk hw dX9_statement_245
                · replace hf := mF1 c258 hf
                  refine lv_aload_n hx hb dX9_statement_230 rfl (lv_at hl 2 rfl) ?_
                  obtain ⟨x259, e260, hf⟩ := mBind hf
                  refine mgr B hw flX9_57 rfl h1 e260 dX9_statement_231 ?_
                  refine lv_aload_n hx hb dX9_statement_234 rfl (lv_at hl 2 rfl) ?_
                  refine mgi B hw flX9_161 rfl h1 dX9_statement_235 ?_
                  obtain ⟨h261, hf⟩ := mChk hf
                  refine mld2 B hw h261 dX9_statement_238 ?_
                  refine lv_bipush (v := (59 : Int32)) hx hb dX9_statement_239 (by decide) ?_
                  refine lv_icmp_eq (tgt := 246) hx hb dX9_statement_241 (by decide) (fun c262 => ?_) (fun c262 => ?_)
                  · replace hf := mT1 c262 hf
                    refine lv_aload_n hx hb dX9_statement_246 rfl (lv_at hl 2 rfl) ?_
                    refine lv_dup hx hb dX9_statement_247 rfl ?_
                    refine mgi B hw flX9_161 rfl h1 dX9_statement_248 ?_
                    refine lv_iconst (v := (1 : Int32)) hx hb dX9_statement_251 (by decide) ?_
                    refine lv_iadd hx hb dX9_statement_252 ?_
                    obtain ⟨I263, e264, hf⟩ := mLet hf
                    refine mpi B hw puX9_161 rfl h1 dX9_statement_253 (fun H locs hw => ?_)
                    rw [← e264] at hw
                    refine lv_iconst (v := (1 : Int32)) hx hb dX9_statement_256 (by decide) ?_
                    rw [hQm, ← Option.some.inj hf]
                    exact mrz (v := true) hx hb hr hlk hw dX9_statement_257
                  · replace hf := mF1 c262 hf
                    refine lv_iconst (v := (0 : Int32)) hx hb dX9_statement_244 (by decide) ?_
                    rw [hQm, ← Option.some.inj hf]
                    exact mrz (v := false) hx hb hr hlk hw dX9_statement_245
              · replace hf := mT1 c250 hf
                refine lv_iconst (v := (0 : Int32)) hx hb dX9_statement_200 (by decide) ?_
                rw [hQm, ← Option.some.inj hf]
                exact mrz (v := false) hx hb hr hlk hw dX9_statement_201
        · replace hf := mT1 c193 hf
          refine lv_iconst (v := (0 : Int32)) hx hb dX9_statement_98 (by decide) ?_
          rw [hQm, ← Option.some.inj hf]
          exact mrz (v := false) hx hb hr hlk hw dX9_statement_99
      · replace hf := mT1 c190 hf
        refine lv_iconst (v := (0 : Int32)) hx hb dX9_statement_79 (by decide) ?_
        rw [hQm, ← Option.some.inj hf]
        exact mrz (v := false) hx hb hr hlk hw dX9_statement_80
  · replace hf := mF1 c4 hf
    refine lv_iconst (v := (0 : Int32)) hx hb dX9_statement_10 (by decide) ?_
    refine lv_goto (tgt := 44) hx hb dX9_statement_11 (by decide) ?_
    refine lv_istore_n (lv' := [(1, .int (0 : Int32)), (0, .ref (g.2.1 a0))]) hx hb dX9_statement_44 rfl hl (by decide) rfl (fun ls hl => ?_)
    refine lv_iload_n hx hb dX9_statement_45 rfl (lv_at hl 0 rfl) ?_
    refine lv_iconst (v := (-1 : Int32)) hx hb dX9_statement_46 (by decide) ?_
    refine lv_icmp_eq (tgt := 100) hx hb dX9_statement_47 (by decide) (fun c => absurd c (by decide)) (fun _ => ?_)
    refine lv_aload_n hx hb dX9_statement_50 rfl (lv_at hl 1 rfl) ?_
    refine lv_iload_n hx hb dX9_statement_51 rfl (lv_at hl 0 rfl) ?_
    refine lv_iconst (v := (4 : Int32)) hx hb dX9_statement_52 (by decide) ?_
    refine lv_icmp_ne (tgt := 60) hx hb dX9_statement_53 (by decide) (fun _ => ?_) (fun c => absurd c (by decide))
    refine lv_iconst (v := (1 : Int32)) hx hb dX9_statement_60 (by decide) ?_
    refine lv_iload_n hx hb dX9_statement_61 rfl (lv_at hl 0 rfl) ?_
    refine lv_bipush (v := (7 : Int32)) hx hb dX9_statement_62 (by decide) ?_
    refine lv_icmp_ne (tgt := 72) hx hb dX9_statement_64 (by decide) (fun _ => ?_) (fun c => absurd c (by decide))
    refine lv_iconst (v := (3 : Int32)) hx hb dX9_statement_72 (by decide) ?_
    obtain ⟨z268, e269, hf⟩ := mBind hf
    refine mcallV (rest := []) (ci := 9) B hw [.int (1 : Int32), .int (3 : Int32)] clX9_190 rfl h1 (r_X9_takesNumber l g K n hJ hO a0 (1 : Int32) (3 : Int32) z2.2 J0 R0 z268 e269) ⟨rfl, rfl, Nat.le_of_ble_eq_true rfl, Nat.le_of_ble_eq_true rfl⟩ rfl hl.1 (Nat.le_of_ble_eq_true rfl) ⟨Nat.zero_le _, Nat.zero_le _⟩ dX9_statement_73 (fun H locs hw => ?_)
    refine W.eq (g2 := F0 m 76 ls [.int (mb z268.1)]) rfl ?_
    refine lv_if_ne (tgt := 81) hx hb dX9_statement_76 (by decide) (fun c270 => ?_) (fun c270 => ?_)
    · replace hf := mF1 c270 hf
      refine lv_iload_n hx hb dX9_statement_81 rfl (lv_at hl 0 rfl) ?_
      refine lv_aload_n hx hb dX9_statement_82 rfl (lv_at hl 1 rfl) ?_
      refine mgi B hw flX9_177 rfl h1 dX9_statement_83 ?_
      refine lv_iadd hx hb dX9_statement_86 ?_
      refine lv_istore_n (lv' := [(2, .int ((0 : Int32) + (z268.2 a0 22))), (1, .int (0 : Int32)), (0, .ref (g.2.1 a0))]) hx hb dX9_statement_87 rfl hl (by decide) rfl (fun ls hl => ?_)
      refine lv_aload_n hx hb dX9_statement_88 rfl (lv_at hl 2 rfl) ?_
      refine lv_ldc2 (v := (26995 : Int64)) hx hb B.1.2.2.2.1 (B.1.2.2.2.2 (Cond.constantLong RX9 193 (26995 : Int64)) (mT_at 946 rfl rfl)) dX9_statement_89 ?_
      obtain ⟨z271, e272, hf⟩ := mBind hf
      refine mcallV (rest := []) (ci := 9) B hw [.long (26995 : Int64)] clX9_182 rfl h1 (r_X9_takes l g K n hJ hO a0 (26995 : Int64) z268.2 J0 R0 z271 e272) ⟨rfl, rfl, Nat.le_of_ble_eq_true rfl, Nat.le_of_ble_eq_true rfl⟩ rfl hl.1 (Nat.le_of_ble_eq_true rfl) ⟨Nat.zero_le _, Nat.zero_le _⟩ dX9_statement_92 (fun H locs hw => ?_)
      refine W.eq (g2 := F0 m 95 ls [.int (mb z271.1)]) rfl ?_
      refine lv_if_ne (tgt := 169) hx hb dX9_statement_95 (by decide) (fun c273 => ?_) (fun c273 => ?_)
      · replace hf := mF1 c273 hf
        refine lv_aload_n hx hb dX9_statement_169 rfl (lv_at hl 2 rfl) ?_
        refine lv_iload_n hx hb dX9_statement_170 rfl (lv_at hl 0 rfl) ?_
        refine lv_bipush (v := (20 : Int32)) hx hb dX9_statement_171 (by decide) ?_
        refine lv_icmp_ne (tgt := 180) hx hb dX9_statement_173 (by decide) (fun c274 => ?_) (fun c274 => ?_)
        · replace hf := mF1 c274 hf
          refine lv_iconst (v := (0 : Int32)) hx hb dX9_statement_180 (by decide) ?_
          refine lv_iload_n hx hb dX9_statement_181 rfl (lv_at hl 0 rfl) ?_
          refine lv_bipush (v := (20 : Int32)) hx hb dX9_statement_182 (by decide) ?_
          refine lv_icmp_ne (tgt := 191) hx hb dX9_statement_184 (by decide) (fun c275 => ?_) (fun c275 => ?_)
          · replace hf := mF1 c275 hf
            refine lv_sipush (v := (999 : Int32)) hx hb dX9_statement_191 (by decide) ?_
            obtain ⟨z276, e277, hf⟩ := mBind hf
            refine mcallV (rest := []) (ci := 9) B hw [.int (0 : Int32), .int (999 : Int32)] clX9_190 rfl h1 (r_X9_takesNumber l g K n hJ hO a0 (0 : Int32) (999 : Int32) z271.2 J0 R0 z276 e277) ⟨rfl, rfl, Nat.le_of_ble_eq_true rfl, Nat.le_of_ble_eq_true rfl⟩ rfl hl.1 (Nat.le_of_ble_eq_true rfl) ⟨Nat.zero_le _, Nat.zero_le _⟩ dX9_statement_194 (fun H locs hw => ?_)
            refine W.eq (g2 := F0 m 197 ls [.int (mb z276.1)]) rfl ?_
            refine lv_if_ne (tgt := 202) hx hb dX9_statement_197 (by decide) (fun c278 => ?_) (fun c278 => ?_)
            · replace hf := mF1 c278 hf
              refine lv_aload_n hx hb dX9_statement_202 rfl (lv_at hl 2 rfl) ?_
              obtain ⟨x279, e280, hf⟩ := mBind hf
              refine mgr B hw flX9_50 rfl h1 e280 dX9_statement_203 ?_
              refine lv_bipush (v := (21 : Int32)) hx hb dX9_statement_206 (by decide) ?_
              refine lv_iload_n hx hb dX9_statement_208 rfl (lv_at hl 0 rfl) ?_
              refine lv_iadd hx hb dX9_statement_209 ?_
              refine lv_aload_n hx hb dX9_statement_210 rfl (lv_at hl 2 rfl) ?_
              refine mgi B hw flX9_177 rfl h1 dX9_statement_211 ?_
              obtain ⟨h281, hf⟩ := mChk hf
              obtain ⟨I282, e283, hf⟩ := mLet hf
              refine mst1 B hw h281 dX9_statement_214 (fun H locs hw => ?_)
              rw [← e283] at hw
              refine lv_aload_n hx hb dX9_statement_215 rfl (lv_at hl 2 rfl) ?_
              obtain ⟨z284, e285, hf⟩ := mBind hf
              refine mcallV (rest := []) (ci := 9) B hw [] clX9_167 rfl h1 (r_X9_blanks l g K n hJ hO a0 I282 J0 R0 z284 e285) ⟨rfl, rfl, Nat.le_of_ble_eq_true rfl, Nat.le_of_ble_eq_true rfl⟩ rfl hl.1 (Nat.le_of_ble_eq_true rfl) ⟨Nat.zero_le _, Nat.zero_le _⟩ dX9_statement_216 (fun H locs hw => ?_)
              refine W.eq (g2 := F0 m 219 ls []) rfl ?_
              refine lv_aload_n hx hb dX9_statement_219 rfl (lv_at hl 2 rfl) ?_
              refine mgi B hw flX9_161 rfl h1 dX9_statement_220 ?_
              refine lv_aload_n hx hb dX9_statement_223 rfl (lv_at hl 2 rfl) ?_
              refine mgi B hw flX9_164 rfl h1 dX9_statement_224 ?_
              refine lv_icmp_eq (tgt := 244) hx hb dX9_statement_227 (by decide) (fun c286 => ?_) (fun c286 => ?_)
              · replace hf := mT1 c286 hf
                refine lv_iconst (v := (0 : Int32)) hx hb dX9_statement_244 (by decide) ?_
                rw [hQm, ← Option.some.inj hf]
                exact mrz (v := false) hx hb hr hlk hw dX9_statement_245
              · replace hf := mF1 c286 hf
                refine lv_aload_n hx hb dX9_statement_230 rfl (lv_at hl 2 rfl) ?_
                obtain ⟨x287, e288, hf⟩ := mBind hf
                refine mgr B hw flX9_57 rfl h1 e288 dX9_statement_231 ?_
                refine lv_aload_n hx hb dX9_statement_234 rfl (lv_at hl 2 rfl) ?_
                refine mgi B hw flX9_161 rfl h1 dX9_statement_235 ?_
                obtain ⟨h289, hf⟩ := mChk hf
                refine mld2 B hw h289 dX9_statement_238 ?_
                refine lv_bipush (v := (59 : Int32)) hx hb dX9_statement_239 (by decide) ?_
                refine lv_icmp_eq (tgt := 246) hx hb dX9_statement_241 (by decide) (fun c290 => ?_) (fun c290 => ?_)
                · replace hf := mT1 c290 hf
                  refine lv_aload_n hx hb dX9_statement_246 rfl (lv_at hl 2 rfl) ?_
                  refine lv_dup hx hb dX9_statement_247 rfl ?_
                  refine mgi B hw flX9_161 rfl h1 dX9_statement_248 ?_
                  refine lv_iconst (v := (1 : Int32)) hx hb dX9_statement_251 (by decide) ?_
                  refine lv_iadd hx hb dX9_statement_252 ?_
                  obtain ⟨I291, e292, hf⟩ := mLet hf
                  refine mpi B hw puX9_161 rfl h1 dX9_statement_253 (fun H locs hw => ?_)
                  rw [← e292] at hw
                  refine lv_iconst (v := (1 : Int32)) hx hb dX9_statement_256 (by decide) ?_
                  rw [hQm, ← Option.some.inj hf]
                  exact mrz (v := true) hx hb hr hlk hw dX9_statement_257
                · replace hf := mF1 c290 hf
                  refine lv_iconst (v := (0 : Int32)) hx hb dX9_statement_244 (by decide) ?_
                  rw [hQm, ← Option.some.inj hf]
                  exact mrz (v := false) hx hb hr hlk hw dX9_statement_245
            · replace hf := mT1 c278 hf
              refine lv_iconst (v := (0 : Int32)) hx hb dX9_statement_200 (by decide) ?_
              rw [hQm, ← Option.some.inj hf]
              exact mrz (v := false) hx hb hr hlk hw dX9_statement_201
          · replace hf := mT1 c275 hf
            refine lv_iconst (v := (5 : Int32)) hx hb dX9_statement_187 (by decide) ?_
            refine lv_goto (tgt := 194) hx hb dX9_statement_188 (by decide) ?_
            obtain ⟨z293, e294, hf⟩ := mBind hf
            refine mcallV (rest := []) (ci := 9) B hw [.int (0 : Int32), .int (5 : Int32)] clX9_190 rfl h1 (r_X9_takesNumber l g K n hJ hO a0 (0 : Int32) (5 : Int32) z271.2 J0 R0 z293 e294) ⟨rfl, rfl, Nat.le_of_ble_eq_true rfl, Nat.le_of_ble_eq_true rfl⟩ rfl hl.1 (Nat.le_of_ble_eq_true rfl) ⟨Nat.zero_le _, Nat.zero_le _⟩ dX9_statement_194 (fun H locs hw => ?_)
            refine W.eq (g2 := F0 m 197 ls [.int (mb z293.1)]) rfl ?_
            refine lv_if_ne (tgt := 202) hx hb dX9_statement_197 (by decide) (fun c295 => ?_) (fun c295 => ?_)
            · replace hf := mF1 c295 hf
              refine lv_aload_n hx hb dX9_statement_202 rfl (lv_at hl 2 rfl) ?_
              obtain ⟨x296, e297, hf⟩ := mBind hf
              refine mgr B hw flX9_50 rfl h1 e297 dX9_statement_203 ?_
              refine lv_bipush (v := (21 : Int32)) hx hb dX9_statement_206 (by decide) ?_
              refine lv_iload_n hx hb dX9_statement_208 rfl (lv_at hl 0 rfl) ?_
              refine lv_iadd hx hb dX9_statement_209 ?_
              refine lv_aload_n hx hb dX9_statement_210 rfl (lv_at hl 2 rfl) ?_
              refine mgi B hw flX9_177 rfl h1 dX9_statement_211 ?_
              obtain ⟨h298, hf⟩ := mChk hf
              obtain ⟨I299, e300, hf⟩ := mLet hf
              refine mst1 B hw h298 dX9_statement_214 (fun H locs hw => ?_)
              rw [← e300] at hw
              refine lv_aload_n hx hb dX9_statement_215 rfl (lv_at hl 2 rfl) ?_
              obtain ⟨z301, e302, hf⟩ := mBind hf
              refine mcallV (rest := []) (ci := 9) B hw [] clX9_167 rfl h1 (r_X9_blanks l g K n hJ hO a0 I299 J0 R0 z301 e302) ⟨rfl, rfl, Nat.le_of_ble_eq_true rfl, Nat.le_of_ble_eq_true rfl⟩ rfl hl.1 (Nat.le_of_ble_eq_true rfl) ⟨Nat.zero_le _, Nat.zero_le _⟩ dX9_statement_216 (fun H locs hw => ?_)
              refine W.eq (g2 := F0 m 219 ls []) rfl ?_
              refine lv_aload_n hx hb dX9_statement_219 rfl (lv_at hl 2 rfl) ?_
              refine mgi B hw flX9_161 rfl h1 dX9_statement_220 ?_
              refine lv_aload_n hx hb dX9_statement_223 rfl (lv_at hl 2 rfl) ?_
              refine mgi B hw flX9_164 rfl h1 dX9_statement_224 ?_
              refine lv_icmp_eq (tgt := 244) hx hb dX9_statement_227 (by decide) (fun c303 => ?_) (fun c303 => ?_)
              · replace hf := mT1 c303 hf
                refine lv_iconst (v := (0 : Int32)) hx hb dX9_statement_244 (by decide) ?_
                rw [hQm, ← Option.some.inj hf]
                exact mrz (v := false) hx hb hr hlk hw dX9_statement_245
              · replace hf := mF1 c303 hf
                refine lv_aload_n hx hb dX9_statement_230 rfl (lv_at hl 2 rfl) ?_
                obtain ⟨x304, e305, hf⟩ := mBind hf
                refine mgr B hw flX9_57 rfl h1 e305 dX9_statement_231 ?_
                refine lv_aload_n hx hb dX9_statement_234 rfl (lv_at hl 2 rfl) ?_
                refine mgi B hw flX9_161 rfl h1 dX9_statement_235 ?_
                obtain ⟨h306, hf⟩ := mChk hf
                refine mld2 B hw h306 dX9_statement_238 ?_
                refine lv_bipush (v := (59 : Int32)) hx hb dX9_statement_239 (by decide) ?_
                refine lv_icmp_eq (tgt := 246) hx hb dX9_statement_241 (by decide) (fun c307 => ?_) (fun c307 => ?_)
                · replace hf := mT1 c307 hf
                  refine lv_aload_n hx hb dX9_statement_246 rfl (lv_at hl 2 rfl) ?_
                  refine lv_dup hx hb dX9_statement_247 rfl ?_
                  refine mgi B hw flX9_161 rfl h1 dX9_statement_248 ?_
                  refine lv_iconst (v := (1 : Int32)) hx hb dX9_statement_251 (by decide) ?_
                  refine lv_iadd hx hb dX9_statement_252 ?_
                  obtain ⟨I308, e309, hf⟩ := mLet hf
                  refine mpi B hw puX9_161 rfl h1 dX9_statement_253 (fun H locs hw => ?_)
                  rw [← e309] at hw
                  refine lv_iconst (v := (1 : Int32)) hx hb dX9_statement_256 (by decide) ?_
                  rw [hQm, ← Option.some.inj hf]
                  exact mrz (v := true) hx hb hr hlk hw dX9_statement_257
                · replace hf := mF1 c307 hf
                  refine lv_iconst (v := (0 : Int32)) hx hb dX9_statement_244 (by decide) ?_
                  rw [hQm, ← Option.some.inj hf]
                  exact mrz (v := false) hx hb hr hlk hw dX9_statement_245
            · replace hf := mT1 c295 hf
              refine lv_iconst (v := (0 : Int32)) hx hb dX9_statement_200 (by decide) ?_
              rw [hQm, ← Option.some.inj hf]
              exact mrz (v := false) hx hb hr hlk hw dX9_statement_201
        · replace hf := mT1 c274 hf
          refine lv_iconst (v := (1 : Int32)) hx hb dX9_statement_176 (by decide) ?_
          refine lv_goto (tgt := 181) hx hb dX9_statement_177 (by decide) ?_
          refine lv_iload_n hx hb dX9_statement_181 rfl (lv_at hl 0 rfl) ?_
          refine lv_bipush (v := (20 : Int32)) hx hb dX9_statement_182 (by decide) ?_
          refine lv_icmp_ne (tgt := 191) hx hb dX9_statement_184 (by decide) (fun c310 => ?_) (fun c310 => ?_)
          · replace hf := mF1 c310 hf
            refine lv_sipush (v := (999 : Int32)) hx hb dX9_statement_191 (by decide) ?_
            obtain ⟨z311, e312, hf⟩ := mBind hf
            refine mcallV (rest := []) (ci := 9) B hw [.int (1 : Int32), .int (999 : Int32)] clX9_190 rfl h1 (r_X9_takesNumber l g K n hJ hO a0 (1 : Int32) (999 : Int32) z271.2 J0 R0 z311 e312) ⟨rfl, rfl, Nat.le_of_ble_eq_true rfl, Nat.le_of_ble_eq_true rfl⟩ rfl hl.1 (Nat.le_of_ble_eq_true rfl) ⟨Nat.zero_le _, Nat.zero_le _⟩ dX9_statement_194 (fun H locs hw => ?_)
            refine W.eq (g2 := F0 m 197 ls [.int (mb z311.1)]) rfl ?_
            refine lv_if_ne (tgt := 202) hx hb dX9_statement_197 (by decide) (fun c313 => ?_) (fun c313 => ?_)
            · replace hf := mF1 c313 hf
              refine lv_aload_n hx hb dX9_statement_202 rfl (lv_at hl 2 rfl) ?_
              obtain ⟨x314, e315, hf⟩ := mBind hf
              refine mgr B hw flX9_50 rfl h1 e315 dX9_statement_203 ?_
              refine lv_bipush (v := (21 : Int32)) hx hb dX9_statement_206 (by decide) ?_
              refine lv_iload_n hx hb dX9_statement_208 rfl (lv_at hl 0 rfl) ?_
              refine lv_iadd hx hb dX9_statement_209 ?_
              refine lv_aload_n hx hb dX9_statement_210 rfl (lv_at hl 2 rfl) ?_
              refine mgi B hw flX9_177 rfl h1 dX9_statement_211 ?_
              obtain ⟨h316, hf⟩ := mChk hf
              obtain ⟨I317, e318, hf⟩ := mLet hf
              refine mst1 B hw h316 dX9_statement_214 (fun H locs hw => ?_)
              rw [← e318] at hw
              refine lv_aload_n hx hb dX9_statement_215 rfl (lv_at hl 2 rfl) ?_
              obtain ⟨z319, e320, hf⟩ := mBind hf
              refine mcallV (rest := []) (ci := 9) B hw [] clX9_167 rfl h1 (r_X9_blanks l g K n hJ hO a0 I317 J0 R0 z319 e320) ⟨rfl, rfl, Nat.le_of_ble_eq_true rfl, Nat.le_of_ble_eq_true rfl⟩ rfl hl.1 (Nat.le_of_ble_eq_true rfl) ⟨Nat.zero_le _, Nat.zero_le _⟩ dX9_statement_216 (fun H locs hw => ?_)
              refine W.eq (g2 := F0 m 219 ls []) rfl ?_
              refine lv_aload_n hx hb dX9_statement_219 rfl (lv_at hl 2 rfl) ?_
              refine mgi B hw flX9_161 rfl h1 dX9_statement_220 ?_
              refine lv_aload_n hx hb dX9_statement_223 rfl (lv_at hl 2 rfl) ?_
              refine mgi B hw flX9_164 rfl h1 dX9_statement_224 ?_
              refine lv_icmp_eq (tgt := 244) hx hb dX9_statement_227 (by decide) (fun c321 => ?_) (fun c321 => ?_)
              · replace hf := mT1 c321 hf
                refine lv_iconst (v := (0 : Int32)) hx hb dX9_statement_244 (by decide) ?_
                rw [hQm, ← Option.some.inj hf]
                exact mrz (v := false) hx hb hr hlk hw dX9_statement_245
              · replace hf := mF1 c321 hf
                refine lv_aload_n hx hb dX9_statement_230 rfl (lv_at hl 2 rfl) ?_
                obtain ⟨x322, e323, hf⟩ := mBind hf
                refine mgr B hw flX9_57 rfl h1 e323 dX9_statement_231 ?_
                refine lv_aload_n hx hb dX9_statement_234 rfl (lv_at hl 2 rfl) ?_
                refine mgi B hw flX9_161 rfl h1 dX9_statement_235 ?_
                obtain ⟨h324, hf⟩ := mChk hf
                refine mld2 B hw h324 dX9_statement_238 ?_
                refine lv_bipush (v := (59 : Int32)) hx hb dX9_statement_239 (by decide) ?_
                refine lv_icmp_eq (tgt := 246) hx hb dX9_statement_241 (by decide) (fun c325 => ?_) (fun c325 => ?_)
                · replace hf := mT1 c325 hf
                  refine lv_aload_n hx hb dX9_statement_246 rfl (lv_at hl 2 rfl) ?_
                  refine lv_dup hx hb dX9_statement_247 rfl ?_
                  refine mgi B hw flX9_161 rfl h1 dX9_statement_248 ?_
                  refine lv_iconst (v := (1 : Int32)) hx hb dX9_statement_251 (by decide) ?_
                  refine lv_iadd hx hb dX9_statement_252 ?_
                  obtain ⟨I326, e327, hf⟩ := mLet hf
                  refine mpi B hw puX9_161 rfl h1 dX9_statement_253 (fun H locs hw => ?_)
                  rw [← e327] at hw
                  refine lv_iconst (v := (1 : Int32)) hx hb dX9_statement_256 (by decide) ?_
                  rw [hQm, ← Option.some.inj hf]
                  exact mrz (v := true) hx hb hr hlk hw dX9_statement_257
                · replace hf := mF1 c325 hf
                  refine lv_iconst (v := (0 : Int32)) hx hb dX9_statement_244 (by decide) ?_
                  rw [hQm, ← Option.some.inj hf]
                  exact mrz (v := false) hx hb hr hlk hw dX9_statement_245
            · replace hf := mT1 c313 hf
              refine lv_iconst (v := (0 : Int32)) hx hb dX9_statement_200 (by decide) ?_
              rw [hQm, ← Option.some.inj hf]
              exact mrz (v := false) hx hb hr hlk hw dX9_statement_201
          · replace hf := mT1 c310 hf
            refine lv_iconst (v := (5 : Int32)) hx hb dX9_statement_187 (by decide) ?_
            refine lv_goto (tgt := 194) hx hb dX9_statement_188 (by decide) ?_
            obtain ⟨z328, e329, hf⟩ := mBind hf
            refine mcallV (rest := []) (ci := 9) B hw [.int (1 : Int32), .int (5 : Int32)] clX9_190 rfl h1 (r_X9_takesNumber l g K n hJ hO a0 (1 : Int32) (5 : Int32) z271.2 J0 R0 z328 e329) ⟨rfl, rfl, Nat.le_of_ble_eq_true rfl, Nat.le_of_ble_eq_true rfl⟩ rfl hl.1 (Nat.le_of_ble_eq_true rfl) ⟨Nat.zero_le _, Nat.zero_le _⟩ dX9_statement_194 (fun H locs hw => ?_)
            refine W.eq (g2 := F0 m 197 ls [.int (mb z328.1)]) rfl ?_
            refine lv_if_ne (tgt := 202) hx hb dX9_statement_197 (by decide) (fun c330 => ?_) (fun c330 => ?_)
            · replace hf := mF1 c330 hf
              refine lv_aload_n hx hb dX9_statement_202 rfl (lv_at hl 2 rfl) ?_
              obtain ⟨x331, e332, hf⟩ := mBind hf
              refine mgr B hw flX9_50 rfl h1 e332 dX9_statement_203 ?_
              refine lv_bipush (v := (21 : Int32)) hx hb dX9_statement_206 (by decide) ?_
              refine lv_iload_n hx hb dX9_statement_208 rfl (lv_at hl 0 rfl) ?_
              refine lv_iadd hx hb dX9_statement_209 ?_
              refine lv_aload_n hx hb dX9_statement_210 rfl (lv_at hl 2 rfl) ?_
              refine mgi B hw flX9_177 rfl h1 dX9_statement_211 ?_
              obtain ⟨h333, hf⟩ := mChk hf
              obtain ⟨I334, e335, hf⟩ := mLet hf
              refine mst1 B hw h333 dX9_statement_214 (fun H locs hw => ?_)
              rw [← e335] at hw
              refine lv_aload_n hx hb dX9_statement_215 rfl (lv_at hl 2 rfl) ?_
              obtain ⟨z336, e337, hf⟩ := mBind hf
              refine mcallV (rest := []) (ci := 9) B hw [] clX9_167 rfl h1 (r_X9_blanks l g K n hJ hO a0 I334 J0 R0 z336 e337) ⟨rfl, rfl, Nat.le_of_ble_eq_true rfl, Nat.le_of_ble_eq_true rfl⟩ rfl hl.1 (Nat.le_of_ble_eq_true rfl) ⟨Nat.zero_le _, Nat.zero_le _⟩ dX9_statement_216 (fun H locs hw => ?_)
              refine W.eq (g2 := F0 m 219 ls []) rfl ?_
              refine lv_aload_n hx hb dX9_statement_219 rfl (lv_at hl 2 rfl) ?_
              refine mgi B hw flX9_161 rfl h1 dX9_statement_220 ?_
              refine lv_aload_n hx hb dX9_statement_223 rfl (lv_at hl 2 rfl) ?_
              refine mgi B hw flX9_164 rfl h1 dX9_statement_224 ?_
              refine lv_icmp_eq (tgt := 244) hx hb dX9_statement_227 (by decide) (fun c338 => ?_) (fun c338 => ?_)
              · replace hf := mT1 c338 hf
                refine lv_iconst (v := (0 : Int32)) hx hb dX9_statement_244 (by decide) ?_
                rw [hQm, ← Option.some.inj hf]
                exact mrz (v := false) hx hb hr hlk hw dX9_statement_245
              · replace hf := mF1 c338 hf
                refine lv_aload_n hx hb dX9_statement_230 rfl (lv_at hl 2 rfl) ?_
                obtain ⟨x339, e340, hf⟩ := mBind hf
                refine mgr B hw flX9_57 rfl h1 e340 dX9_statement_231 ?_
                refine lv_aload_n hx hb dX9_statement_234 rfl (lv_at hl 2 rfl) ?_
                refine mgi B hw flX9_161 rfl h1 dX9_statement_235 ?_
                obtain ⟨h341, hf⟩ := mChk hf
                refine mld2 B hw h341 dX9_statement_238 ?_
                refine lv_bipush (v := (59 : Int32)) hx hb dX9_statement_239 (by decide) ?_
                refine lv_icmp_eq (tgt := 246) hx hb dX9_statement_241 (by decide) (fun c342 => ?_) (fun c342 => ?_)
                · replace hf := mT1 c342 hf
                  refine lv_aload_n hx hb dX9_statement_246 rfl (lv_at hl 2 rfl) ?_
                  refine lv_dup hx hb dX9_statement_247 rfl ?_
                  refine mgi B hw flX9_161 rfl h1 dX9_statement_248 ?_
                  refine lv_iconst (v := (1 : Int32)) hx hb dX9_statement_251 (by decide) ?_
                  refine lv_iadd hx hb dX9_statement_252 ?_
                  obtain ⟨I343, e344, hf⟩ := mLet hf
                  refine mpi B hw puX9_161 rfl h1 dX9_statement_253 (fun H locs hw => ?_)
                  rw [← e344] at hw
                  refine lv_iconst (v := (1 : Int32)) hx hb dX9_statement_256 (by decide) ?_
                  rw [hQm, ← Option.some.inj hf]
                  exact mrz (v := true) hx hb hr hlk hw dX9_statement_257
                · replace hf := mF1 c342 hf
                  refine lv_iconst (v := (0 : Int32)) hx hb dX9_statement_244 (by decide) ?_
                  rw [hQm, ← Option.some.inj hf]
                  exact mrz (v := false) hx hb hr hlk hw dX9_statement_245
            · replace hf := mT1 c330 hf
              refine lv_iconst (v := (0 : Int32)) hx hb dX9_statement_200 (by decide) ?_
              rw [hQm, ← Option.some.inj hf]
              exact mrz (v := false) hx hb hr hlk hw dX9_statement_201
      · replace hf := mT1 c273 hf
        refine lv_iconst (v := (0 : Int32)) hx hb dX9_statement_98 (by decide) ?_
        rw [hQm, ← Option.some.inj hf]
        exact mrz (v := false) hx hb hr hlk hw dX9_statement_99
    · replace hf := mT1 c270 hf
      refine lv_iconst (v := (0 : Int32)) hx hb dX9_statement_79 (by decide) ?_
      rw [hQm, ← Option.some.inj hf]
      exact mrz (v := false) hx hb hr hlk hw dX9_statement_80
def f_X9_plain (K : mK) (a0 : Int32) (I0 : mI) (J0 : mJ) (R0 : mR) : Option Int32 :=
  if (4 : Int32) ≤ a0 then
  if (7 : Int32) < a0 then
  if (17 : Int32) ≤ a0 then
  if a0 = (17 : Int32) then
  some (2 : Int32)
  else
  if a0 = (20 : Int32) then
  some (2 : Int32)
  else
  if a0 = (18 : Int32) then
  some (20 : Int32)
  else
  some (5 : Int32)
  else
  some (3 : Int32)
  else
  some (5 : Int32)
  else
  if a0 = 0 then
  some (0 : Int32)
  else
  if a0 = (1 : Int32) then
  some (1 : Int32)
  else
  if a0 = (2 : Int32) then
  some (4 : Int32)
  else
  some (6 : Int32)
set_option maxHeartbeats 4000000 in
set_option maxRecDepth 100000 in
theorem r_X9_plain (l : Launch) (g : mG) (K : mK) (n : Nat) (hJ : mInj g n) (hO : mOk K n) (a0 : Int32) (I0 : mI) (J0 : mJ) (R0 : mR) (out : Int32) (hf : f_X9_plain K a0 I0 J0 R0 = some out) : Met l yX9_plain (mWs yX9_plain cX9_plain 1 (some .int)) ({ frames := 0, cells := 0, slots := 0, locals := 0 }) (va_Pc [.int a0] (mB g K n I0 J0 R0)) (mQ g K n (some (.int out)) I0 J0 R0) 0 0 (mA g n) := by
  unfold f_X9_plain at hf
  refine mStart RX9 hJ hO (by decide) rfl (Nat.le_of_ble_eq_true rfl) ?_
  intro p e s m below meth c ls Qm hQm B hr hlk hw hl
  have hx := B.1.1
  have hb := B.1.2.1
  have hl : lv_has ls 1 [(0, .int a0)] := hl
  refine lv_iload_n hx hb dX9_plain_0 rfl (lv_at hl 0 rfl) ?_
  refine lv_iconst (v := (4 : Int32)) hx hb dX9_plain_1 (by decide) ?_
  refine lv_icmp_ge (tgt := 34) hx hb dX9_plain_2 (by decide) (fun c1 => ?_) (fun c1 => ?_)
  · replace hf := mT1 c1 hf
    refine lv_iload_n hx hb dX9_plain_34 rfl (lv_at hl 0 rfl) ?_
    refine lv_bipush (v := (7 : Int32)) hx hb dX9_plain_35 (by decide) ?_
    refine lv_icmp_gt (tgt := 42) hx hb dX9_plain_37 (by decide) (fun c2 => ?_) (fun c2 => ?_)
    · replace hf := mT1 c2 hf
      refine lv_iload_n hx hb dX9_plain_42 rfl (lv_at hl 0 rfl) ?_
      refine lv_bipush (v := (17 : Int32)) hx hb dX9_plain_43 (by decide) ?_
      refine lv_icmp_ge (tgt := 52) hx hb dX9_plain_45 (by decide) (fun c3 => ?_) (fun c3 => ?_)
      · replace hf := mT1 c3 hf
        refine lv_iload_n hx hb dX9_plain_52 rfl (lv_at hl 0 rfl) ?_
        refine lv_bipush (v := (17 : Int32)) hx hb dX9_plain_53 (by decide) ?_
        refine lv_icmp_eq (tgt := 64) hx hb dX9_plain_55 (by decide) (fun c4 => ?_) (fun c4 => ?_)
        · replace hf := mT1 c4 hf
          refine lv_iconst (v := (2 : Int32)) hx hb dX9_plain_64 (by decide) ?_
          refine lv_goto (tgt := 80) hx hb dX9_plain_65 (by decide) ?_
          rw [hQm, ← Option.some.inj hf]
          exact mri hx hb hr hlk hw dX9_plain_80
        · replace hf := mF1 c4 hf
          refine lv_iload_n hx hb dX9_plain_58 rfl (lv_at hl 0 rfl) ?_
          refine lv_bipush (v := (20 : Int32)) hx hb dX9_plain_59 (by decide) ?_
          refine lv_icmp_ne (tgt := 68) hx hb dX9_plain_61 (by decide) (fun c5 => ?_) (fun c5 => ?_)
          · replace hf := mF1 c5 hf
            refine lv_iload_n hx hb dX9_plain_68 rfl (lv_at hl 0 rfl) ?_
            refine lv_bipush (v := (18 : Int32)) hx hb dX9_plain_69 (by decide) ?_
            refine lv_icmp_ne (tgt := 79) hx hb dX9_plain_71 (by decide) (fun c6 => ?_) (fun c6 => ?_)
            · replace hf := mF1 c6 hf
              refine lv_iconst (v := (5 : Int32)) hx hb dX9_plain_79 (by decide) ?_
              rw [hQm, ← Option.some.inj hf]
              exact mri hx hb hr hlk hw dX9_plain_80
            · replace hf := mT1 c6 hf
              refine lv_bipush (v := (20 : Int32)) hx hb dX9_plain_74 (by decide) ?_
              refine lv_goto (tgt := 80) hx hb dX9_plain_76 (by decide) ?_
              rw [hQm, ← Option.some.inj hf]
              exact mri hx hb hr hlk hw dX9_plain_80
          · replace hf := mT1 c5 hf
            refine lv_iconst (v := (2 : Int32)) hx hb dX9_plain_64 (by decide) ?_
            refine lv_goto (tgt := 80) hx hb dX9_plain_65 (by decide) ?_
            rw [hQm, ← Option.some.inj hf]
            exact mri hx hb hr hlk hw dX9_plain_80
      · replace hf := mF1 c3 hf
        refine lv_iconst (v := (3 : Int32)) hx hb dX9_plain_48 (by decide) ?_
        refine lv_goto (tgt := 80) hx hb dX9_plain_49 (by decide) ?_
        rw [hQm, ← Option.some.inj hf]
        exact mri hx hb hr hlk hw dX9_plain_80
    · replace hf := mF1 c2 hf
      refine lv_iconst (v := (5 : Int32)) hx hb dX9_plain_40 (by decide) ?_
      rw [hQm, ← Option.some.inj hf]
      exact mri hx hb hr hlk hw dX9_plain_41
  · replace hf := mF1 c1 hf
    refine lv_iload_n hx hb dX9_plain_5 rfl (lv_at hl 0 rfl) ?_
    refine lv_if_ne (tgt := 13) hx hb dX9_plain_6 (by decide) (fun c7 => ?_) (fun c7 => ?_)
    · replace hf := mF1 c7 hf
      refine lv_iload_n hx hb dX9_plain_13 rfl (lv_at hl 0 rfl) ?_
      refine lv_iconst (v := (1 : Int32)) hx hb dX9_plain_14 (by decide) ?_
      refine lv_icmp_ne (tgt := 22) hx hb dX9_plain_15 (by decide) (fun c8 => ?_) (fun c8 => ?_)
      · replace hf := mF1 c8 hf
        refine lv_iload_n hx hb dX9_plain_22 rfl (lv_at hl 0 rfl) ?_
        refine lv_iconst (v := (2 : Int32)) hx hb dX9_plain_23 (by decide) ?_
        refine lv_icmp_ne (tgt := 31) hx hb dX9_plain_24 (by decide) (fun c9 => ?_) (fun c9 => ?_)
        · replace hf := mF1 c9 hf
          refine lv_bipush (v := (6 : Int32)) hx hb dX9_plain_31 (by decide) ?_
          rw [hQm, ← Option.some.inj hf]
          exact mri hx hb hr hlk hw dX9_plain_33
        · replace hf := mT1 c9 hf
          refine lv_iconst (v := (4 : Int32)) hx hb dX9_plain_27 (by decide) ?_
          refine lv_goto (tgt := 33) hx hb dX9_plain_28 (by decide) ?_
          rw [hQm, ← Option.some.inj hf]
          exact mri hx hb hr hlk hw dX9_plain_33
      · replace hf := mT1 c8 hf
        refine lv_iconst (v := (1 : Int32)) hx hb dX9_plain_18 (by decide) ?_
        refine lv_goto (tgt := 33) hx hb dX9_plain_19 (by decide) ?_
        rw [hQm, ← Option.some.inj hf]
        exact mri hx hb hr hlk hw dX9_plain_33
    · replace hf := mT1 c7 hf
      refine lv_iconst (v := (0 : Int32)) hx hb dX9_plain_9 (by decide) ?_
      refine lv_goto (tgt := 33) hx hb dX9_plain_10 (by decide) ?_
      rw [hQm, ← Option.some.inj hf]
      exact mri hx hb hr hlk hw dX9_plain_33
def f_X9_law_L17 (K : mK) (v0 : Nat) (v1 : Int32) (J0 : mJ) (R0 : mR) : Nat → Int32 → mI → Option mI
  | 0, _, _ => none
  | N + 1, v2, I =>
  if v1 ≤ v2 then
  some I
  else
  if K v0 = (0, 9) then
  (R0 v0 16).bind fun x3 =>
  (R0 v0 15).bind fun x5 =>
  if mIx K x5 2 v2 then
  if mIx K x3 2 v2 then
  (some (mup I x3 (v2).toNatClampNeg ((I x5 (v2).toNatClampNeg)).toInt8.toInt32)).bind fun I9 =>
  f_X9_law_L17 K v0 v1 J0 R0 N (v2 + (1 : Int32)) I9
  else none
  else none
  else none
def f_X9_law_L57 (K : mK) (v0 : Nat) (J0 : mJ) (R0 : mR) : Nat → Int32 → mI → Option mI
  | 0, _, _ => none
  | N + 1, v2, I =>
  if (21 : Int32) ≤ v2 then
  some I
  else
  if K v0 = (0, 9) then
  (R0 v0 14).bind fun x13 =>
  (f_X9_plain K v2 I J0 R0).bind fun z15 =>
  if mIx K x13 1 ((21 : Int32) + v2) then
  (some (mup I x13 (((21 : Int32) + v2)).toNatClampNeg z15)).bind fun I18 =>
  f_X9_law_L57 K v0 J0 R0 N (v2 + (1 : Int32)) I18
  else none
  else none
def f_X9_law_L163 (K : mK) (v0 : Nat) (v2 : Int32) (J0 : mJ) (R0 : mR) : Nat → Int32 → mI → Option mI
  | 0, _, _ => none
  | N + 1, v4, I =>
  if (21 : Int32) ≤ v4 then
  some I
  else
  if K v0 = (0, 9) then
  (R0 v0 14).bind fun x22 =>
  if mIx K x22 1 ((21 : Int32) + v4) then
  if mIx K x22 1 v4 then
  (some (mup I x22 (v4).toNatClampNeg (I x22 (((21 : Int32) + v4)).toNatClampNeg))).bind fun I26 =>
  f_X9_law_L163 K v0 v2 J0 R0 N (v4 + (1 : Int32)) I26
  else none
  else none
  else none
def f_X9_law_L90 (K : mK) (v0 : Nat) (J0 : mJ) (R0 : mR) : Nat → Int32 → Bool → mI → Option (Int32 × Bool × mI)
  | 0, _, _, _ => none
  | N + 1, v2, v3, I =>
  if (mb v3) = 0 then
  some (v2, v3, I)
  else
  if K v0 = (0, 9) then
  if (I v0 18) ≤ (I v0 19) then
  some (v2, v3, I)
  else
  if (20 : Int32) ≤ v2 then
  f_X9_law_L90 K v0 J0 R0 N (v2 + (1 : Int32)) false I
  else
  (f_X9_statement K v0 I J0 R0).bind fun z33 =>
  if (mb z33.1) = 0 then
  f_X9_law_L90 K v0 J0 R0 N (v2 + (1 : Int32)) false z33.2
  else
  (f_X9_blanks K v0 z33.2 J0 R0).bind fun z38 =>
  f_X9_law_L90 K v0 J0 R0 N (v2 + (1 : Int32)) true z38
  else none
def f_X9_law (K : mK) (a0 : Nat) (a1 : Int32) (I0 : mI) (J0 : mJ) (R0 : mR) : Option (Int32 × mI) :=
  if K a0 = (0, 9) then
  (f_X9_isIn K a1 (0 : Int32) (I0 a0 17) I0 J0 R0).bind fun z41 =>
  if (mb z41) = 0 then
  some ((-2 : Int32), I0)
  else
  (f_X9_law_L17 K a0 a1 J0 R0 8192 (0 : Int32) I0).bind fun z44 =>
  (some (mup z44 a0 18 a1)).bind fun I46 =>
  (some (mup I46 a0 17 (0 : Int32))).bind fun I48 =>
  (some (mup I48 a0 19 (0 : Int32))).bind fun I50 =>
  (f_X9_law_L57 K a0 J0 R0 8192 (0 : Int32) I50).bind fun z52 =>
  (f_X9_blanks K a0 z52 J0 R0).bind fun z54 =>
  (f_X9_law_L90 K a0 J0 R0 8192 (0 : Int32) true z54).bind fun z56 =>
  if (mb z56.2.1) = 0 then
  (some (mup z56.2.2 a0 20 (z56.2.2 a0 19))).bind fun I59 =>
  if (mb z56.2.1) = 0 then
  some ((-1 : Int32), I59)
  else
  (f_X9_law_L163 K a0 z56.1 J0 R0 8192 (0 : Int32) I59).bind fun z62 =>
  some (z56.1, z62)
  else
  (some (mup z56.2.2 a0 20 (-1 : Int32))).bind fun I64 =>
  if (mb z56.2.1) = 0 then
  some ((-1 : Int32), I64)
  else
  (f_X9_law_L163 K a0 z56.1 J0 R0 8192 (0 : Int32) I64).bind fun z67 =>
  some (z56.1, z67)
  else none
set_option maxHeartbeats 4000000 in
set_option maxRecDepth 100000 in
theorem r_X9_law (l : Launch) (g : mG) (K : mK) (n : Nat) (hJ : mInj g n) (hO : mOk K n) (a0 : Nat) (a1 : Int32) (I0 : mI) (J0 : mJ) (R0 : mR) (out : (Int32 × mI)) (hf : f_X9_law K a0 a1 I0 J0 R0 = some out) : Met l yX9_law (mWs yX9_law cX9_law 5 (some .int)) ({ frames := 4, cells := 0, slots := 0, locals := 86 }) (va_Pc [.ref (g.2.1 a0), .int a1] (mB g K n I0 J0 R0)) (mQ g K n (some (.int out.1)) out.2 J0 R0) 0 0 (mA g n) := by
  unfold f_X9_law at hf
  refine mStart RX9 hJ hO (by decide) rfl (Nat.le_of_ble_eq_true rfl) ?_
  intro p e s m below meth c ls Qm hQm B hr hlk hw hl
  have hx := B.1.1
  have hb := B.1.2.1
  have hl : lv_has ls 5 [(0, .ref (g.2.1 a0)), (1, .int a1)] := hl
  have L17 : ∀ (N : Nat) (v0 : Nat) (v1 : Int32) (v2 : Int32) (I : mI) (z : mI) (H : Heap) (locs : List Loc) (ls : Array Slot), f_X9_law_L17 K v0 v1 J0 R0 N v2 I = some z → mHp g K n s I J0 R0 H locs → lv_has ls 5 [(0, .ref (g.2.1 v0)), (1, .int v1), (2, .int v2)] → (∀ (H : Heap) (locs : List Loc) (ls : Array Slot), mHp g K n s z J0 R0 H locs → lv_has ls 5 [(0, .ref (g.2.1 v0)), (1, .int v1)] → W p l e ({ frames := 4, cells := 0, slots := 0, locals := 86 } : Room) s m ([.ref (g.2.1 a0), .int a1] : List Value).toArray below meth c H locs 0 0 Qm (F0 m 40 ls [])) → W p l e ({ frames := 4, cells := 0, slots := 0, locals := 86 } : Room) s m ([.ref (g.2.1 a0), .int a1] : List Value).toArray below meth c H locs 0 0 Qm (F0 m 17 ls []) := by
    intro N
    induction N with
    | zero =>
      intro v0 v1 v2 I z H locs ls hf hw hl kx
      rw [f_X9_law_L17] at hf
      cases hf
    | succ N ih =>
      intro v0 v1 v2 I z H locs ls hf hw hl kx
      rw [f_X9_law_L17] at hf
      refine lv_iload_n hx hb dX9_law_17 rfl (lv_at hl 2 rfl) ?_
      refine lv_iload_n hx hb dX9_law_18 rfl (lv_at hl 1 rfl) ?_
      refine lv_icmp_ge (tgt := 40) hx hb dX9_law_19 (by decide) (fun c1 => ?_) (fun c1 => ?_)
      · replace hf := mT1 c1 hf
        obtain rfl := Option.some.inj hf
        exact kx _ _ _ hw (lv_sub hl [0, 1] rfl)
      · replace hf := mF1 c1 hf
        refine lv_aload_n hx hb dX9_law_22 rfl (lv_at hl 0 rfl) ?_
        obtain ⟨h2, hf⟩ := mChk hf
        obtain ⟨x3, e4, hf⟩ := mBind hf
        refine mgr B hw flX9_57 rfl h2 e4 dX9_law_23 ?_
        refine lv_iload_n hx hb dX9_law_26 rfl (lv_at hl 2 rfl) ?_
        refine lv_aload_n hx hb dX9_law_27 rfl (lv_at hl 0 rfl) ?_
        obtain ⟨x5, e6, hf⟩ := mBind hf
        refine mgr B hw flX9_53 rfl h2 e6 dX9_law_28 ?_
        refine lv_iload_n hx hb dX9_law_31 rfl (lv_at hl 2 rfl) ?_
        obtain ⟨h7, hf⟩ := mChk hf
        refine mld2 B hw h7 dX9_law_32 ?_
        obtain ⟨h8, hf⟩ := mChk hf
        obtain ⟨I9, e10, hf⟩ := mLet hf
        refine mst2 B hw h8 dX9_law_33 (fun H locs hw => ?_)
        rw [← e10] at hw
        refine lv_iinc (v := (v2 + (1 : Int32))) (lv' := [(2, .int (v2 + (1 : Int32))), (0, .ref (g.2.1 v0)), (1, .int v1)]) hx hb dX9_law_34 hl (k := 2) rfl rfl (by decide) rfl (fun ls hl => ?_)
        refine lv_goto (tgt := 17) hx hb dX9_law_37 (by decide) ?_
        exact ih v0 v1 (v2 + (1 : Int32)) I9 z _ _ _ hf hw (lv_sub hl [1, 2, 0] rfl) kx
  have L57 : ∀ (N : Nat) (v0 : Nat) (v2 : Int32) (I : mI) (z : mI) (H : Heap) (locs : List Loc) (ls : Array Slot), f_X9_law_L57 K v0 J0 R0 N v2 I = some z → mHp g K n s I J0 R0 H locs → lv_has ls 5 [(0, .ref (g.2.1 v0)), (2, .int v2)] → (∀ (H : Heap) (locs : List Loc) (ls : Array Slot), mHp g K n s z J0 R0 H locs → lv_has ls 5 [(0, .ref (g.2.1 v0))] → W p l e ({ frames := 4, cells := 0, slots := 0, locals := 86 } : Room) s m ([.ref (g.2.1 a0), .int a1] : List Value).toArray below meth c H locs 0 0 Qm (F0 m 82 ls [])) → W p l e ({ frames := 4, cells := 0, slots := 0, locals := 86 } : Room) s m ([.ref (g.2.1 a0), .int a1] : List Value).toArray below meth c H locs 0 0 Qm (F0 m 57 ls []) := by
    intro N
    induction N with
    | zero =>
      intro v0 v2 I z H locs ls hf hw hl kx
      rw [f_X9_law_L57] at hf
      cases hf
    | succ N ih =>
      intro v0 v2 I z H locs ls hf hw hl kx
      rw [f_X9_law_L57] at hf
      refine lv_iload_n hx hb dX9_law_57 rfl (lv_at hl 1 rfl) ?_
      refine lv_bipush (v := (21 : Int32)) hx hb dX9_law_58 (by decide) ?_
      refine lv_icmp_ge (tgt := 82) hx hb dX9_law_60 (by decide) (fun c11 => ?_) (fun c11 => ?_)
      · replace hf := mT1 c11 hf
        obtain rfl := Option.some.inj hf
        exact kx _ _ _ hw (lv_sub hl [0] rfl)
      · replace hf := mF1 c11 hf
        refine lv_aload_n hx hb dX9_law_63 rfl (lv_at hl 0 rfl) ?_
        obtain ⟨h12, hf⟩ := mChk hf
        obtain ⟨x13, e14, hf⟩ := mBind hf
        refine mgr B hw flX9_50 rfl h12 e14 dX9_law_64 ?_
        refine lv_bipush (v := (21 : Int32)) hx hb dX9_law_67 (by decide) ?_
        refine lv_iload_n hx hb dX9_law_69 rfl (lv_at hl 1 rfl) ?_
        refine lv_iadd hx hb dX9_law_70 ?_
        refine lv_iload_n hx hb dX9_law_71 rfl (lv_at hl 1 rfl) ?_
        obtain ⟨z15, e16, hf⟩ := mBind hf
        refine mcallS (rest := [.int ((21 : Int32) + v2), .ref (g.2.1 x13)]) B hw [.int v2] clX9_203 (r_X9_plain l g K n hJ hO v2 I J0 R0 z15 e16) ⟨rfl, rfl, Nat.le_of_ble_eq_true rfl, Nat.le_of_ble_eq_true rfl⟩ rfl hl.1 (Nat.le_of_ble_eq_true rfl) ⟨Nat.zero_le _, Nat.zero_le _⟩ dX9_law_72 (fun H locs hw => ?_)
        refine W.eq (g2 := F0 m 75 ls [.int z15, .int ((21 : Int32) + v2), .ref (g.2.1 x13)]) rfl ?_
        obtain ⟨h17, hf⟩ := mChk hf
        obtain ⟨I18, e19, hf⟩ := mLet hf
        refine mst1 B hw h17 dX9_law_75 (fun H locs hw => ?_)
        rw [← e19] at hw
        refine lv_iinc (v := (v2 + (1 : Int32))) (lv' := [(2, .int (v2 + (1 : Int32))), (0, .ref (g.2.1 v0))]) hx hb dX9_law_76 hl (k := 1) rfl rfl (by decide) rfl (fun ls hl => ?_)
        refine lv_goto (tgt := 57) hx hb dX9_law_79 (by decide) ?_
        exact ih v0 (v2 + (1 : Int32)) I18 z _ _ _ hf hw (lv_sub hl [1, 0] rfl) kx
  have L163 : ∀ (N : Nat) (v0 : Nat) (v2 : Int32) (v4 : Int32) (I : mI) (z : mI) (H : Heap) (locs : List Loc) (ls : Array Slot), f_X9_law_L163 K v0 v2 J0 R0 N v4 I = some z → mHp g K n s I J0 R0 H locs → lv_has ls 5 [(0, .ref (g.2.1 v0)), (2, .int v2), (4, .int v4)] → (∀ (H : Heap) (locs : List Loc) (ls : Array Slot), mHp g K n s z J0 R0 H locs → lv_has ls 5 [(2, .int v2)] → W p l e ({ frames := 4, cells := 0, slots := 0, locals := 86 } : Room) s m ([.ref (g.2.1 a0), .int a1] : List Value).toArray below meth c H locs 0 0 Qm (F0 m 193 ls [])) → W p l e ({ frames := 4, cells := 0, slots := 0, locals := 86 } : Room) s m ([.ref (g.2.1 a0), .int a1] : List Value).toArray below meth c H locs 0 0 Qm (F0 m 163 ls []) := by
    intro N
    induction N with
    | zero =>
      intro v0 v2 v4 I z H locs ls hf hw hl kx
      rw [f_X9_law_L163] at hf
      cases hf
    | succ N ih =>
      intro v0 v2 v4 I z H locs ls hf hw hl kx
      rw [f_X9_law_L163] at hf
      refine lv_iload hx hb dX9_law_163 (lv_at hl 2 rfl) ?_
      refine lv_bipush (v := (21 : Int32)) hx hb dX9_law_165 (by decide) ?_
      refine lv_icmp_ge (tgt := 193) hx hb dX9_law_167 (by decide) (fun c20 => ?_) (fun c20 => ?_)
      · replace hf := mT1 c20 hf
        obtain rfl := Option.some.inj hf
        exact kx _ _ _ hw (lv_sub hl [1] rfl)
      · replace hf := mF1 c20 hf
        refine lv_aload_n hx hb dX9_law_170 rfl (lv_at hl 0 rfl) ?_
        obtain ⟨h21, hf⟩ := mChk hf
        obtain ⟨x22, e23, hf⟩ := mBind hf
        refine mgr B hw flX9_50 rfl h21 e23 dX9_law_171 ?_
        refine lv_iload hx hb dX9_law_174 (lv_at hl 2 rfl) ?_
        refine lv_aload_n hx hb dX9_law_176 rfl (lv_at hl 0 rfl) ?_
        refine mgr B hw flX9_50 rfl h21 e23 dX9_law_177 ?_
        refine lv_bipush (v := (21 : Int32)) hx hb dX9_law_180 (by decide) ?_
        refine lv_iload hx hb dX9_law_182 (lv_at hl 2 rfl) ?_
        refine lv_iadd hx hb dX9_law_184 ?_
        obtain ⟨h24, hf⟩ := mChk hf
        refine mld1 B hw h24 dX9_law_185 ?_
        obtain ⟨h25, hf⟩ := mChk hf
        obtain ⟨I26, e27, hf⟩ := mLet hf
        refine mst1 B hw h25 dX9_law_186 (fun H locs hw => ?_)
        rw [← e27] at hw
        refine lv_iinc (v := (v4 + (1 : Int32))) (lv' := [(4, .int (v4 + (1 : Int32))), (0, .ref (g.2.1 v0)), (2, .int v2)]) hx hb dX9_law_187 hl (k := 2) rfl rfl (by decide) rfl (fun ls hl => ?_)
        refine lv_goto (tgt := 163) hx hb dX9_law_190 (by decide) ?_
        exact ih v0 v2 (v4 + (1 : Int32)) I26 z _ _ _ hf hw (lv_sub hl [1, 2, 0] rfl) kx
  have L90 : ∀ (N : Nat) (v0 : Nat) (v2 : Int32) (v3 : Bool) (I : mI) (z : (Int32 × Bool × mI)) (H : Heap) (locs : List Loc) (ls : Array Slot), f_X9_law_L90 K v0 J0 R0 N v2 v3 I = some z → mHp g K n s I J0 R0 H locs → lv_has ls 5 [(0, .ref (g.2.1 v0)), (2, .int v2), (3, .int (mb v3))] → (∀ (H : Heap) (locs : List Loc) (ls : Array Slot), mHp g K n s z.2.2 J0 R0 H locs → lv_has ls 5 [(0, .ref (g.2.1 v0)), (2, .int z.1), (3, .int (mb z.2.1))] → W p l e ({ frames := 4, cells := 0, slots := 0, locals := 86 } : Room) s m ([.ref (g.2.1 a0), .int a1] : List Value).toArray below meth c H locs 0 0 Qm (F0 m 138 ls [])) → W p l e ({ frames := 4, cells := 0, slots := 0, locals := 86 } : Room) s m ([.ref (g.2.1 a0), .int a1] : List Value).toArray below meth c H locs 0 0 Qm (F0 m 90 ls []) := by
    intro N
    induction N with
    | zero =>
      intro v0 v2 v3 I z H locs ls hf hw hl kx
      rw [f_X9_law_L90] at hf
      cases hf
    | succ N ih =>
      intro v0 v2 v3 I z H locs ls hf hw hl kx
      rw [f_X9_law_L90] at hf
      refine lv_iload_n hx hb dX9_law_90 rfl (lv_at hl 2 rfl) ?_
      refine lv_if_eq (tgt := 138) hx hb dX9_law_91 (by decide) (fun c28 => ?_) (fun c28 => ?_)
      · replace hf := mT1 c28 hf
        obtain rfl := Option.some.inj hf
        exact kx _ _ _ hw (lv_sub hl [0, 1, 2] rfl)
      · replace hf := mF1 c28 hf
        refine lv_aload_n hx hb dX9_law_94 rfl (lv_at hl 0 rfl) ?_
        obtain ⟨h29, hf⟩ := mChk hf
        refine mgi B hw flX9_161 rfl h29 dX9_law_95 ?_
        refine lv_aload_n hx hb dX9_law_98 rfl (lv_at hl 0 rfl) ?_
        refine mgi B hw flX9_164 rfl h29 dX9_law_99 ?_
        refine lv_icmp_ge (tgt := 138) hx hb dX9_law_102 (by decide) (fun c30 => ?_) (fun c30 => ?_)
        · replace hf := mT1 c30 hf
          obtain rfl := Option.some.inj hf
          exact kx _ _ _ hw (lv_sub hl [0, 1, 2] rfl)
        · replace hf := mF1 c30 hf
          refine lv_iload_n hx hb dX9_law_105 rfl (lv_at hl 1 rfl) ?_
          refine lv_bipush (v := (20 : Int32)) hx hb dX9_law_106 (by decide) ?_
          refine lv_icmp_ge (tgt := 122) hx hb dX9_law_108 (by decide) (fun c31 => ?_) (fun c31 => ?_)
          · replace hf := mT1 c31 hf
            refine lv_iconst (v := (0 : Int32)) hx hb dX9_law_122 (by decide) ?_
            refine lv_istore_n (lv' := [(3, .int (0 : Int32)), (0, .ref (g.2.1 v0)), (2, .int v2)]) hx hb dX9_law_123 rfl hl (by decide) rfl (fun ls hl => ?_)
            refine lv_iinc (v := (v2 + (1 : Int32))) (lv' := [(2, .int (v2 + (1 : Int32))), (3, .int (0 : Int32)), (0, .ref (g.2.1 v0))]) hx hb dX9_law_124 hl (k := 2) rfl rfl (by decide) rfl (fun ls hl => ?_)
            refine lv_iload_n hx hb dX9_law_127 rfl (lv_at hl 1 rfl) ?_
            refine lv_if_eq (tgt := 90) hx hb dX9_law_128 (by decide) (fun _ => ?_) (fun c => absurd (by decide) c)
            exact ih v0 (v2 + (1 : Int32)) false I z _ _ _ hf hw (lv_sub hl [2, 0, 1] rfl) kx
          · replace hf := mF1 c31 hf
            refine lv_aload_n hx hb dX9_law_111 rfl (lv_at hl 0 rfl) ?_
            obtain ⟨z33, e34, hf⟩ := mBind hf
            refine mcallV (rest := []) (ci := 9) B hw [] clX9_206 rfl h29 (r_X9_statement l g K n hJ hO v0 I J0 R0 z33 e34) ⟨rfl, rfl, Nat.le_of_ble_eq_true rfl, Nat.le_of_ble_eq_true rfl⟩ rfl hl.1 (Nat.le_of_ble_eq_true rfl) ⟨Nat.zero_le _, Nat.zero_le _⟩ dX9_law_112 (fun H locs hw => ?_)
            refine W.eq (g2 := F0 m 115 ls [.int (mb z33.1)]) rfl ?_
            refine lv_if_eq (tgt := 122) hx hb dX9_law_115 (by decide) (fun c35 => ?_) (fun c35 => ?_)
            · replace hf := mT1 c35 hf
              refine lv_iconst (v := (0 : Int32)) hx hb dX9_law_122 (by decide) ?_
              refine lv_istore_n (lv' := [(3, .int (0 : Int32)), (0, .ref (g.2.1 v0)), (2, .int v2)]) hx hb dX9_law_123 rfl hl (by decide) rfl (fun ls hl => ?_)
              refine lv_iinc (v := (v2 + (1 : Int32))) (lv' := [(2, .int (v2 + (1 : Int32))), (3, .int (0 : Int32)), (0, .ref (g.2.1 v0))]) hx hb dX9_law_124 hl (k := 2) rfl rfl (by decide) rfl (fun ls hl => ?_)
              refine lv_iload_n hx hb dX9_law_127 rfl (lv_at hl 1 rfl) ?_
              refine lv_if_eq (tgt := 90) hx hb dX9_law_128 (by decide) (fun _ => ?_) (fun c => absurd (by decide) c)
              exact ih v0 (v2 + (1 : Int32)) false z33.2 z _ _ _ hf hw (lv_sub hl [2, 0, 1] rfl) kx
            · replace hf := mF1 c35 hf
              refine lv_iconst (v := (1 : Int32)) hx hb dX9_law_118 (by decide) ?_
              refine lv_goto (tgt := 123) hx hb dX9_law_119 (by decide) ?_
              refine lv_istore_n (lv' := [(3, .int (1 : Int32)), (0, .ref (g.2.1 v0)), (2, .int v2)]) hx hb dX9_law_123 rfl hl (by decide) rfl (fun ls hl => ?_)
              refine lv_iinc (v := (v2 + (1 : Int32))) (lv' := [(2, .int (v2 + (1 : Int32))), (3, .int (1 : Int32)), (0, .ref (g.2.1 v0))]) hx hb dX9_law_124 hl (k := 2) rfl rfl (by decide) rfl (fun ls hl => ?_)
              refine lv_iload_n hx hb dX9_law_127 rfl (lv_at hl 1 rfl) ?_
              refine lv_if_eq (tgt := 90) hx hb dX9_law_128 (by decide) (fun c => absurd c (by decide)) (fun _ => ?_)
              refine lv_aload_n hx hb dX9_law_131 rfl (lv_at hl 2 rfl) ?_
              obtain ⟨z38, e39, hf⟩ := mBind hf
              refine mcallV (rest := []) (ci := 9) B hw [] clX9_167 rfl h29 (r_X9_blanks l g K n hJ hO v0 z33.2 J0 R0 z38 e39) ⟨rfl, rfl, Nat.le_of_ble_eq_true rfl, Nat.le_of_ble_eq_true rfl⟩ rfl hl.1 (Nat.le_of_ble_eq_true rfl) ⟨Nat.zero_le _, Nat.zero_le _⟩ dX9_law_132 (fun H locs hw => ?_)
              refine W.eq (g2 := F0 m 135 ls []) rfl ?_
              refine lv_goto (tgt := 90) hx hb dX9_law_135 (by decide) ?_
              exact ih v0 (v2 + (1 : Int32)) true z38 z _ _ _ hf hw (lv_sub hl [2, 0, 1] rfl) kx
  refine lv_iload_n hx hb dX9_law_0 rfl (lv_at hl 1 rfl) ?_
  refine lv_iconst (v := (0 : Int32)) hx hb dX9_law_1 (by decide) ?_
  refine lv_aload_n hx hb dX9_law_2 rfl (lv_at hl 0 rfl) ?_
  obtain ⟨h40, hf⟩ := mChk hf
  refine mgi B hw flX9_154 rfl h40 dX9_law_3 ?_
  obtain ⟨z41, e42, hf⟩ := mBind hf
  refine mcallS (rest := []) B hw [.int a1, .int (0 : Int32), .int (I0 a0 17)] clX9_64 (r_X9_isIn l g K n hJ hO a1 (0 : Int32) (I0 a0 17) I0 J0 R0 z41 e42) ⟨rfl, rfl, Nat.le_of_ble_eq_true rfl, Nat.le_of_ble_eq_true rfl⟩ rfl hl.1 (Nat.le_of_ble_eq_true rfl) ⟨Nat.zero_le _, Nat.zero_le _⟩ dX9_law_6 (fun H locs hw => ?_)
  refine W.eq (g2 := F0 m 9 ls [.int (mb z41)]) rfl ?_
  refine lv_if_ne (tgt := 15) hx hb dX9_law_9 (by decide) (fun c43 => ?_) (fun c43 => ?_)
  · replace hf := mF1 c43 hf
    refine lv_iconst (v := (0 : Int32)) hx hb dX9_law_15 (by decide) ?_
    refine lv_istore_n (lv' := [(2, .int (0 : Int32)), (0, .ref (g.2.1 a0)), (1, .int a1)]) hx hb dX9_law_16 rfl hl (by decide) rfl (fun ls hl => ?_)
    obtain ⟨z44, e45, hf⟩ := mBind hf
    refine L17 8192 a0 a1 (0 : Int32) I0 z44 _ _ _ e45 hw (lv_sub hl [1, 2, 0] rfl) (fun H locs ls hw hl => ?_)
    refine lv_aload_n hx hb dX9_law_40 rfl (lv_at hl 0 rfl) ?_
    refine lv_iload_n hx hb dX9_law_41 rfl (lv_at hl 1 rfl) ?_
    obtain ⟨I46, e47, hf⟩ := mLet hf
    refine mpi B hw puX9_164 rfl h40 dX9_law_42 (fun H locs hw => ?_)
    rw [← e47] at hw
    refine lv_aload_n hx hb dX9_law_45 rfl (lv_at hl 0 rfl) ?_
    refine lv_iconst (v := (0 : Int32)) hx hb dX9_law_46 (by decide) ?_
    obtain ⟨I48, e49, hf⟩ := mLet hf
    refine mpi B hw puX9_154 rfl h40 dX9_law_47 (fun H locs hw => ?_)
    rw [← e49] at hw
    refine lv_aload_n hx hb dX9_law_50 rfl (lv_at hl 0 rfl) ?_
    refine lv_iconst (v := (0 : Int32)) hx hb dX9_law_51 (by decide) ?_
    obtain ⟨I50, e51, hf⟩ := mLet hf
    refine mpi B hw puX9_161 rfl h40 dX9_law_52 (fun H locs hw => ?_)
    rw [← e51] at hw
    refine lv_iconst (v := (0 : Int32)) hx hb dX9_law_55 (by decide) ?_
    refine lv_istore_n (lv' := [(2, .int (0 : Int32)), (0, .ref (g.2.1 a0)), (1, .int a1)]) hx hb dX9_law_56 rfl hl (by decide) rfl (fun ls hl => ?_)
    obtain ⟨z52, e53, hf⟩ := mBind hf
    refine L57 8192 a0 (0 : Int32) I50 z52 _ _ _ e53 hw (lv_sub hl [1, 0] rfl) (fun H locs ls hw hl => ?_)
    refine lv_iconst (v := (0 : Int32)) hx hb dX9_law_82 (by decide) ?_
    refine lv_istore_n (lv' := [(2, .int (0 : Int32)), (0, .ref (g.2.1 a0))]) hx hb dX9_law_83 rfl hl (by decide) rfl (fun ls hl => ?_)
    refine lv_iconst (v := (1 : Int32)) hx hb dX9_law_84 (by decide) ?_
    refine lv_istore_n (lv' := [(3, .int (1 : Int32)), (2, .int (0 : Int32)), (0, .ref (g.2.1 a0))]) hx hb dX9_law_85 rfl hl (by decide) rfl (fun ls hl => ?_)
    refine lv_aload_n hx hb dX9_law_86 rfl (lv_at hl 2 rfl) ?_
    obtain ⟨z54, e55, hf⟩ := mBind hf
    refine mcallV (rest := []) (ci := 9) B hw [] clX9_167 rfl h40 (r_X9_blanks l g K n hJ hO a0 z52 J0 R0 z54 e55) ⟨rfl, rfl, Nat.le_of_ble_eq_true rfl, Nat.le_of_ble_eq_true rfl⟩ rfl hl.1 (Nat.le_of_ble_eq_true rfl) ⟨Nat.zero_le _, Nat.zero_le _⟩ dX9_law_87 (fun H locs hw => ?_)
    refine W.eq (g2 := F0 m 90 ls []) rfl ?_
    obtain ⟨z56, e57, hf⟩ := mBind hf
    refine L90 8192 a0 (0 : Int32) true z54 z56 _ _ _ e57 hw (lv_sub hl [2, 1, 0] rfl) (fun H locs ls hw hl => ?_)
    refine lv_aload_n hx hb dX9_law_138 rfl (lv_at hl 0 rfl) ?_
    refine lv_iload_n hx hb dX9_law_139 rfl (lv_at hl 2 rfl) ?_
    refine lv_if_eq (tgt := 147) hx hb dX9_law_140 (by decide) (fun c58 => ?_) (fun c58 => ?_)
    · replace hf := mT1 c58 hf
      refine lv_aload_n hx hb dX9_law_147 rfl (lv_at hl 0 rfl) ?_
      refine mgi B hw flX9_161 rfl h40 dX9_law_148 ?_
      obtain ⟨I59, e60, hf⟩ := mLet hf
      refine mpi B hw puX9_60 rfl h40 dX9_law_151 (fun H locs hw => ?_)
      rw [← e60] at hw
      refine lv_iload_n hx hb dX9_law_154 rfl (lv_at hl 2 rfl) ?_
      refine lv_if_ne (tgt := 160) hx hb dX9_law_155 (by decide) (fun c61 => ?_) (fun c61 => ?_)
      · replace hf := mF1 c61 hf
        refine lv_iconst (v := (0 : Int32)) hx hb dX9_law_160 (by decide) ?_
        refine lv_istore (lv' := [(4, .int (0 : Int32)), (0, .ref (g.2.1 a0)), (2, .int z56.1), (3, .int (mb z56.2.1))]) hx hb dX9_law_161 hl (by decide) rfl (fun ls hl => ?_)
        obtain ⟨z62, e63, hf⟩ := mBind hf
        refine L163 8192 a0 z56.1 (0 : Int32) I59 z62 _ _ _ e63 hw (lv_sub hl [1, 2, 0] rfl) (fun H locs ls hw hl => ?_)
        refine lv_iload_n hx hb dX9_law_193 rfl (lv_at hl 0 rfl) ?_
        rw [hQm, ← Option.some.inj hf]
        exact mri hx hb hr hlk hw dX9_law_194
      · replace hf := mT1 c61 hf
        refine lv_iconst (v := (-1 : Int32)) hx hb dX9_law_158 (by decide) ?_
        rw [hQm, ← Option.some.inj hf]
        exact mri hx hb hr hlk hw dX9_law_159
    · replace hf := mF1 c58 hf
      refine lv_iconst (v := (-1 : Int32)) hx hb dX9_law_143 (by decide) ?_
      refine lv_goto (tgt := 151) hx hb dX9_law_144 (by decide) ?_
      obtain ⟨I64, e65, hf⟩ := mLet hf
      refine mpi B hw puX9_60 rfl h40 dX9_law_151 (fun H locs hw => ?_)
      rw [← e65] at hw
      refine lv_iload_n hx hb dX9_law_154 rfl (lv_at hl 2 rfl) ?_
      refine lv_if_ne (tgt := 160) hx hb dX9_law_155 (by decide) (fun c66 => ?_) (fun c66 => ?_)
      · replace hf := mF1 c66 hf
        refine lv_iconst (v := (0 : Int32)) hx hb dX9_law_160 (by decide) ?_
        refine lv_istore (lv' := [(4, .int (0 : Int32)), (0, .ref (g.2.1 a0)), (2, .int z56.1), (3, .int (mb z56.2.1))]) hx hb dX9_law_161 hl (by decide) rfl (fun ls hl => ?_)
        obtain ⟨z67, e68, hf⟩ := mBind hf
        refine L163 8192 a0 z56.1 (0 : Int32) I64 z67 _ _ _ e68 hw (lv_sub hl [1, 2, 0] rfl) (fun H locs ls hw hl => ?_)
        refine lv_iload_n hx hb dX9_law_193 rfl (lv_at hl 0 rfl) ?_
        rw [hQm, ← Option.some.inj hf]
        exact mri hx hb hr hlk hw dX9_law_194
      · replace hf := mT1 c66 hf
        refine lv_iconst (v := (-1 : Int32)) hx hb dX9_law_158 (by decide) ?_
        rw [hQm, ← Option.some.inj hf]
        exact mri hx hb hr hlk hw dX9_law_159
  · replace hf := mT1 c43 hf
    refine lv_bipush (v := (-2 : Int32)) hx hb dX9_law_12 (by decide) ?_
    rw [hQm, ← Option.some.inj hf]
    exact mri hx hb hr hlk hw dX9_law_14
