/-! ===== statements ===== -/
def mEnt (c lo hi : Int32) (I : mI) (J : mJ) : Option (Bool × mI) :=
  (f_X9_takesNumber kM 0 lo hi I J rM).bind fun z108 =>
  if (mb z108.1) = 0 then
  some (false, z108.2)
  else
  (f_X9_takes kM 0 (26995 : Int64) z108.2 J rM).bind fun z111 =>
  if (mb z111.1) = 0 then
  some (false, z111.2)
  else
  if (c + (z108.2 0 22)) = (20 : Int32) then
  if (c + (z108.2 0 22)) = (20 : Int32) then
  (f_X9_takesNumber kM 0 (1 : Int32) (5 : Int32) z111.2 J rM).bind fun z168 =>
  if (mb z168.1) = 0 then
  some (false, z168.2)
  else
  (rM 0 14).bind fun x171 =>
  if mIx kM x171 1 ((21 : Int32) + (c + (z108.2 0 22))) then
  (some (mup z168.2 x171 (((21 : Int32) + (c + (z108.2 0 22)))).toNatClampNeg (z168.2 0 22))).bind fun I174 =>
  (f_X9_blanks kM 0 I174 J rM).bind fun z176 =>
  if (z176 0 19) = (z176 0 18) then
  some (false, z176)
  else
  (rM 0 16).bind fun x179 =>
  if mIx kM x179 2 (z176 0 19) then
  if (z176 x179 ((z176 0 19)).toNatClampNeg) = (59 : Int32) then
  (some (mup z176 0 19 ((z176 0 19) + (1 : Int32)))).bind fun I183 =>
  some (true, I183)
  else
  some (false, z176)
  else none
  else none
  else
  (f_X9_takesNumber kM 0 (1 : Int32) (999 : Int32) z111.2 J rM).bind fun z151 =>
  if (mb z151.1) = 0 then
  some (false, z151.2)
  else
  (rM 0 14).bind fun x154 =>
  if mIx kM x154 1 ((21 : Int32) + (c + (z108.2 0 22))) then
  (some (mup z151.2 x154 (((21 : Int32) + (c + (z108.2 0 22)))).toNatClampNeg (z151.2 0 22))).bind fun I157 =>
  (f_X9_blanks kM 0 I157 J rM).bind fun z159 =>
  if (z159 0 19) = (z159 0 18) then
  some (false, z159)
  else
  (rM 0 16).bind fun x162 =>
  if mIx kM x162 2 (z159 0 19) then
  if (z159 x162 ((z159 0 19)).toNatClampNeg) = (59 : Int32) then
  (some (mup z159 0 19 ((z159 0 19) + (1 : Int32)))).bind fun I166 =>
  some (true, I166)
  else
  some (false, z159)
  else none
  else none
  else
  if (c + (z108.2 0 22)) = (20 : Int32) then
  (f_X9_takesNumber kM 0 (0 : Int32) (5 : Int32) z111.2 J rM).bind fun z133 =>
  if (mb z133.1) = 0 then
  some (false, z133.2)
  else
  (rM 0 14).bind fun x136 =>
  if mIx kM x136 1 ((21 : Int32) + (c + (z108.2 0 22))) then
  (some (mup z133.2 x136 (((21 : Int32) + (c + (z108.2 0 22)))).toNatClampNeg (z133.2 0 22))).bind fun I139 =>
  (f_X9_blanks kM 0 I139 J rM).bind fun z141 =>
  if (z141 0 19) = (z141 0 18) then
  some (false, z141)
  else
  (rM 0 16).bind fun x144 =>
  if mIx kM x144 2 (z141 0 19) then
  if (z141 x144 ((z141 0 19)).toNatClampNeg) = (59 : Int32) then
  (some (mup z141 0 19 ((z141 0 19) + (1 : Int32)))).bind fun I148 =>
  some (true, I148)
  else
  some (false, z141)
  else none
  else none
  else
  (f_X9_takesNumber kM 0 (0 : Int32) (999 : Int32) z111.2 J rM).bind fun z116 =>
  if (mb z116.1) = 0 then
  some (false, z116.2)
  else
  (rM 0 14).bind fun x119 =>
  if mIx kM x119 1 ((21 : Int32) + (c + (z108.2 0 22))) then
  (some (mup z116.2 x119 (((21 : Int32) + (c + (z108.2 0 22)))).toNatClampNeg (z116.2 0 22))).bind fun I122 =>
  (f_X9_blanks kM 0 I122 J rM).bind fun z124 =>
  if (z124 0 19) = (z124 0 18) then
  some (false, z124)
  else
  (rM 0 16).bind fun x127 =>
  if mIx kM x127 2 (z124 0 19) then
  if (z124 x127 ((z124 0 19)).toNatClampNeg) = (59 : Int32) then
  (some (mup z124 0 19 ((z124 0 19) + (1 : Int32)))).bind fun I131 =>
  some (true, I131)
  else
  some (false, z124)
  else none
  else none
def mTrm (c lo hi : Int32) (I : mI) (J : mJ) : Option (Bool × mI) := (f_X9_takesNumber kM 0 lo hi I J rM).bind fun z28 => if (mb z28.1) = 0 then some (false, z28.2) else (rM 0 14).bind fun x31 => if mIx kM x31 1 ((21 : Int32) + c) then (some (mup z28.2 x31 (((21 : Int32) + c)).toNatClampNeg (z28.2 0 22))).bind fun I34 => mEnd I34 J else none
theorem mbt1 {α : Type} (x : α) : ¬ mb (true, x).1 = 0 := by
  show ¬ mb true = 0
  decide
theorem mbf1 {α : Type} (x : α) : mb (false, x).1 = 0 := rfl
theorem PX.wr {I0 : mI} {n L' p : Nat} {dw dw' : Nat → Nat} {I : mI} (h : PX I0 n L' p dw I) (hL : 180 ≤ L') {id pl : Nat} {v : Int32} (h1 : L' + 1 ≤ id ∧ id ≤ L' + 4) (h2 : XL (mup I id pl v) L' dw') : PX I0 n L' p dw' (mup I id pl v) := ⟨fun a k n1 n2 => by rw [mup_ne _ _ (by omega)]; exact h.1 a k n1 n2, by rw [mup_ne _ _ (by omega)]; exact h.2.1, by rw [mup_ne _ _ (by omega)]; exact h.2.2.1, h2⟩
theorem PM.wr {I0 : mI} {n p : Nat} {dw : Nat → Nat} {I : mI} (h : PM I0 n p dw I) {j v : Nat} (hj : j < 21) : PM I0 n p (pt dw j v) (mup I 14 (21 + j) (nI v)) := ⟨fun a k n1 n2 => by rw [mup_ne _ _ (by omega)]; exact h.1 a k n1 n2, by rw [mup_ne _ _ (by omega)]; exact h.2.1, by rw [mup_ne _ _ (by omega)]; exact h.2.2.1, fun i hi => by
  by_cases e : i = j
  · subst e; rw [mup_eq, pt_eq]
  · rw [mup_ne _ _ (by omega), pt_ne e]; exact h.2.2.2 i hi⟩
theorem LI.pt {lw : Nat → Nat} (h : LI lw) {j v : Nat} (hv : v ≤ 999) : LI (pt lw j v) := fun i hi => by
  by_cases e : i = j
  · subst e; rw [pt_eq]; exact hv
  · rw [pt_ne e]; exact h i hi
theorem XL.tooth {I : mI} {L' : Nat} {dw : Nat → Nat} (h : XL I L' dw) {pl v : Nat} (h1 : 1 ≤ pl) (h2 : pl ≤ 3) : XL (mup I (L' + 1) pl (nI v)) L' (pt dw (0 + pl) v) := by
  refine ⟨fun i a b => ?_, fun i a => ?_, fun i a b => ?_, fun i a => ?_⟩
  · by_cases e : i = pl
    · subst e; rw [mup_eq, show 0 + i = i by omega, pt_eq]
    · rw [mup_ne _ _ (by omega), pt_ne (by omega)]; exact h.1 i a b
  · rw [mup_ne _ _ (by omega), pt_ne (by omega)]; exact h.2.1 i a
  · rw [mup_ne _ _ (by omega), pt_ne (by omega)]; exact h.2.2.1 i a b
  · rw [mup_ne _ _ (by omega), pt_ne (by omega)]; exact h.2.2.2 i a
theorem XL.mark {I : mI} {L' : Nat} {dw : Nat → Nat} (h : XL I L' dw) {pl v : Nat} (h2 : pl ≤ 3) : XL (mup I (L' + 2) pl (nI v)) L' (pt dw (4 + pl) v) := by
  refine ⟨fun i a b => ?_, fun i a => ?_, fun i a b => ?_, fun i a => ?_⟩
  · rw [mup_ne _ _ (by omega), pt_ne (by omega)]; exact h.1 i a b
  · by_cases e : i = pl
    · subst e; rw [mup_eq, pt_eq]
    · rw [mup_ne _ _ (by omega), pt_ne (by omega)]; exact h.2.1 i a
  · rw [mup_ne _ _ (by omega), pt_ne (by omega)]; exact h.2.2.1 i a b
  · rw [mup_ne _ _ (by omega), pt_ne (by omega)]; exact h.2.2.2 i a
theorem XL.tissue {I : mI} {L' : Nat} {dw : Nat → Nat} (h : XL I L' dw) {pl v : Nat} (h1 : 1 ≤ pl) (h2 : pl ≤ 9) : XL (mup I (L' + 3) pl (nI v)) L' (pt dw (7 + pl) v) := by
  refine ⟨fun i a b => ?_, fun i a => ?_, fun i a b => ?_, fun i a => ?_⟩
  · rw [mup_ne _ _ (by omega), pt_ne (by omega)]; exact h.1 i a b
  · rw [mup_ne _ _ (by omega), pt_ne (by omega)]; exact h.2.1 i a
  · by_cases e : i = pl
    · subst e; rw [mup_eq, pt_eq]
    · rw [mup_ne _ _ (by omega), pt_ne (by omega)]; exact h.2.2.1 i a b
  · rw [mup_ne _ _ (by omega), pt_ne (by omega)]; exact h.2.2.2 i a
theorem XL.term {I : mI} {L' : Nat} {dw : Nat → Nat} (h : XL I L' dw) {pl v : Nat} (h2 : pl ≤ 3) : XL (mup I (L' + 4) pl (nI v)) L' (pt dw (17 + pl) v) := by
  refine ⟨fun i a b => ?_, fun i a => ?_, fun i a b => ?_, fun i a => ?_⟩
  · rw [mup_ne _ _ (by omega), pt_ne (by omega)]; exact h.1 i a b
  · rw [mup_ne _ _ (by omega), pt_ne (by omega)]; exact h.2.1 i a
  · rw [mup_ne _ _ (by omega), pt_ne (by omega)]; exact h.2.2.1 i a b
  · by_cases e : i = pl
    · subst e; rw [mup_eq, pt_eq]
    · rw [mup_ne _ _ (by omega), pt_ne (by omega)]; exact h.2.2.2 i a
theorem u_term {R : mR} (hk : R 168 0 = some 167) {T : Nat → Int32} {n L' p : Nat} {dw : Nat → Nat} {I0 I0' I I' : mI} (hL : 180 ≤ L') (hkk : kX (L' + 4) = (1, 4)) (hT : PT T n I0 I0') (hp : p ≤ n) (hX : PX I0 n L' p dw I) (hM : PM I0' n p dw I') (hw : LI dw) (J J' : mJ) {t lo hi : Nat} (ht : t ≤ 3) (hlo : lo < 2 ^ 31) (hhi : hi ≤ 999) : ∃ b I1 I1' q dw', f_X5_takeTerm kX 168 (L' + 4) (nI t) (nI lo) (nI hi) I J R = some (b, I1) ∧ mTrm (nI (17 + t)) (nI lo) (nI hi) I' J' = some (b, I1') ∧ q ≤ n ∧ PX I0 n L' q dw' I1 ∧ PM I0' n q dw' I1' ∧ (b = false → sk T n q = q) ∧ LI dw' := by
  obtain ⟨b, I1, I1', q, a1, a2, a3, a4, a5, a6, a7⟩ := u_num hk hL hT hp hX hM J J' hlo (show hi < 2 ^ 31 by omega)
  unfold mTrm
  rw [f_X5_takeTerm, if_pos q168, a1, a2, Option.bind_some, Option.bind_some]
  cases b with
  | false =>
    exact ⟨false, I1, I1', q, dw, rfl, rfl, a3, a4, a5, a6, hw⟩
  | true =>
    obtain ⟨v, v1, v2, v3, v4⟩ := a7 rfl
    have ix : (21 : Int32) + nI (17 + t) = nI (21 + (17 + t)) := nI_plus 21 (17 + t)
    have X2 := a4.wr hL (id := L' + 4) (pl := t) (v := nI v) ⟨by omega, by omega⟩ (a4.2.2.2.term ht)
    have M2 := a5.wr (j := 17 + t) (v := v) (by omega)
    obtain ⟨b, I2, I2', q2, b1, b2, b3, b4, b5, b6⟩ := u_end hk hL hT a3 X2 M2 J J'
    refine ⟨b, I2, I2', q2, _, ?_, ?_, b3, b4, b5, b6, hw.pt (by omega)⟩
    · show (if mIx kX (L' + 4) 1 (nI t) then (some (mup I1 (L' + 4) (nI t).toNatClampNeg (I1 168 3))).bind fun I6 => (f_X5_takeEnd kX 168 I6 J R).bind fun z8 => some (z8.1, z8.2) else none) = _
      rw [if_pos (mx t hkk (by omega) (by decide)), Option.bind_some, nI_c (by omega), v3, b1, Option.bind_some]
    · show ((rM 0 14).bind fun x31 => if mIx kM x31 1 ((21 : Int32) + nI (17 + t)) then (some (mup I1' x31 (((21 : Int32) + nI (17 + t))).toNatClampNeg (I1' 0 22))).bind fun I34 => mEnd I34 J' else none) = _
      rw [rq14, Option.bind_some, ix, if_pos (ixM (by omega)), Option.bind_some, nI_c (by omega), v4, b2]
theorem u_entry {R : mR} (hk : R 168 0 = some 167) {T : Nat → Int32} {n L' p : Nat} {dw : Nat → Nat} {I0 I0' I I' : mI} (hL : 180 ≤ L') (hT : PT T n I0 I0') (hp : p ≤ n) (hX : PX I0 n L' p dw I) (hM : PM I0' n p dw I') (hw : LI dw) (J J' : mJ) {c len lo hi id : Nat} (hid : L' + 1 ≤ id ∧ id ≤ L' + 4) (hkk : kX id = (1, len)) (hlen : len ≤ 10) (hhi : hi < len) (hlo : lo < 10) (hc : c + hi < 20) (hXL : ∀ (I : mI) (dw : Nat → Nat) (pl v : Nat), lo ≤ pl → pl ≤ hi → XL I L' dw → XL (mup I id pl (nI v)) L' (pt dw (c + pl) v)) : ∃ b I1 I1' q dw', f_X5_takeEntry kX 168 id (nI lo) (nI hi) I J R = some (b, I1) ∧ mEnt (nI c) (nI lo) (nI hi) I' J' = some (b, I1') ∧ q ≤ n ∧ PX I0 n L' q dw' I1 ∧ PM I0' n q dw' I1' ∧ (b = false → sk T n q = q) ∧ LI dw' := by
  obtain ⟨b, I1, I1', q, a1, a2, a3, a4, a5, a6, a7⟩ := u_num hk hL hT hp hX hM J J' (show lo < 2 ^ 31 by omega) (show hi < 2 ^ 31 by omega)
  have hmin : imin (nI hi) (nI (kX id).2 - 1) = nI hi := by
    rw [hkk]
    show imin (nI hi) (nI len - 1) = nI hi
    rw [nI_m1 (by omega), imin_nI (by omega) (by omega), show min hi (len - 1) = hi by omega]
  have hx : f_X5_takeEntry kX 168 id (nI lo) (nI hi) I J R = (if (mb b) = 0 then some (false, I1) else (f_X5_takeWord kX 168 1 I1 J R).bind fun z6 => if (mb z6.1) = 0 then some (false, z6.2) else (f_X5_takeNumber kX 168 (0 : Int32) (999 : Int32) z6.2 J R).bind fun z9 => if (mb z9.1) = 0 then some (false, z9.2) else if mIx kX id 1 (I1 168 3) then (some (mup z9.2 id ((I1 168 3)).toNatClampNeg (z9.2 168 3))).bind fun I13 => (f_X5_takeEnd kX 168 I13 J R).bind fun z15 => some (z15.1, z15.2) else none) := by
    rw [f_X5_takeEntry, if_pos (by rw [hkk]), if_pos q168, hmin, a1, Option.bind_some]
  unfold mEnt
  rw [hx, a2, Option.bind_some]
  dsimp only
  cases b with
  | false =>
    rw [imf, imf]
    exact ⟨false, I1, I1', q, dw, rfl, rfl, a3, a4, a5, a6, hw⟩
  | true =>
    obtain ⟨pl, p1, p2, p3, p4⟩ := a7 rfl
    obtain ⟨b, I2, I2', q2, b1, b2, b3, b4, b5, b6, b7, b8⟩ := u_word hk hL hT a3 a4 a5 J J' (w := 1) (by decide)
    rw [imt, imt, b1, show (26995 : Int64) = lN (wN64 1) from rfl, b2, Option.bind_some, Option.bind_some]
    cases b with
    | false =>
      exact ⟨false, I2, I2', q2, dw, rfl, rfl, b3, b4, b5, b6, hw⟩
    | true =>
      obtain ⟨b, I3, I3', q3, c1, c2, c3, c4, c5, c6, c7⟩ := u_num hk hL hT b3 b4 b5 J J' (lo := 0) (hi := 999) (by decide) (by decide)
      have ne : ¬ (nI c + I1' 0 22) = (20 : Int32) := by
        rw [p4, nI_add]
        exact fun z => by
          have := (nI_eq (show c + pl < 2 ^ 31 by omega) (show 20 < 2 ^ 31 by decide)).mp z
          omega
      rw [if_neg (mbt1 I2), if_neg (mbt1 I2'), if_neg ne, if_neg ne]
      dsimp only
      rw [show f_X5_takeNumber kX 168 0 999 I2 J R = _ from c1, show f_X9_takesNumber kM 0 0 999 I2' J' rM = _ from c2, Option.bind_some, Option.bind_some]
      cases b with
      | false =>
        exact ⟨false, I3, I3', q3, dw, rfl, rfl, c3, c4, c5, c6, hw⟩
      | true =>
        obtain ⟨v, v1, v2, v3, v4⟩ := c7 rfl
        have ix : (21 : Int32) + (nI c + I1' 0 22) = nI (21 + (c + pl)) := by rw [p4, nI_add]; exact nI_plus 21 (c + pl)
        have X2 := c4.wr hL (id := id) (pl := pl) (v := nI v) hid (hXL I3 dw pl v p1 p2 c4.2.2.2)
        have M2 := c5.wr (j := c + pl) (v := v) (by omega)
        obtain ⟨b, I4, I4', q4, d1, d2, d3, d4, d5, d6⟩ := u_end hk hL hT c3 X2 M2 J J'
        refine ⟨b, I4, I4', q4, _, ?_, ?_, d3, d4, d5, d6, hw.pt (by omega)⟩
        · show (if mIx kX id 1 (I1 168 3) then (some (mup I3 id ((I1 168 3)).toNatClampNeg (I3 168 3))).bind fun I13 => (f_X5_takeEnd kX 168 I13 J R).bind fun z15 => some (z15.1, z15.2) else none) = _
          rw [p3, if_pos (mx pl hkk (by omega) (by omega)), Option.bind_some, nI_c (by omega), v3, d1, Option.bind_some]
        · show ((rM 0 14).bind fun x31 => if mIx kM x31 1 ((21 : Int32) + (nI c + I1' 0 22)) then (some (mup I3' x31 (((21 : Int32) + (nI c + I1' 0 22))).toNatClampNeg (I3' 0 22))).bind fun I34 => mEnd I34 J' else none) = _
          rw [rq14, Option.bind_some, ix, if_pos (ixM (by omega)), Option.bind_some, nI_c (by omega), v4, d2]
