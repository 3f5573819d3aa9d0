/-! ===== who may be paired, and with how many points ===== -/
theorem sufA_iff {p : Nat → Bool} : ∀ {d i : Nat}, sufA p d i = true ↔ ∃ k, i ≤ k ∧ k < i + d ∧ p k = true
  | 0, i => by
    simp only [sufA, Bool.false_eq_true, false_iff]
    rintro ⟨k, h1, h2, -⟩
    omega
  | d + 1, i => by
    simp only [sufA, Bool.or_eq_true]
    rw [sufA_iff (d := d) (i := i + 1)]
    constructor
    · rintro (h | ⟨k, h1, h2, h3⟩)
      · exact ⟨i, Nat.le_refl i, by omega, h⟩
      · exact ⟨k, by omega, by omega, h3⟩
    · rintro ⟨k, h1, h2, h3⟩
      by_cases e : k = i
      · subst e; exact Or.inl h3
      · exact Or.inr ⟨k, by omega, by omega, h3⟩
def gvn (nm : Nat → Nat) (m : Nat) : Bool := sufA (fun f => decide (nm f = m + 1)) 12 0
def ptV (C : Nat → Nat → Nat) (ld lw : Nat → Nat) (nf b m : Nat) : Int32 := if barC (bC C ld b nf) (C m) = 0 then ptA (bC C ld b nf) (C m) lw else -100000
def pN (v : Int32) : Nat := v.toInt.toNat
theorem imax_pN (v : Int32) : imax 0 v = nI (pN v) := by
  unfold imax pN
  have h := fb_rng v
  have e0 : (0 : Int32).toInt = 0 := rfl
  by_cases h1 : (0 : Int32) < v
  · rw [if_pos h1]
    have h2 := Int32.lt_iff_toInt_lt.mp h1
    apply Int32.toInt_inj.mp
    rw [nI_toInt (by omega)]
    omega
  · rw [if_neg h1]
    have h2 : ¬ (0 : Int32).toInt < v.toInt := fun z => h1 (Int32.lt_iff_toInt_lt.mpr z)
    rw [show v.toInt.toNat = 0 by omega]
    rfl
theorem sumI_bd {f : Nat → Int32} {A B : Int} (hA : -3000 ≤ A) (hA0 : A ≤ 0) (hB : B ≤ 3000) (hB0 : 0 ≤ B) : ∀ {d i : Nat}, d ≤ 100 → (∀ k, i ≤ k → k < i + d → A ≤ (f k).toInt ∧ (f k).toInt ≤ B) → (d : Int) * A ≤ (sumI f d i).toInt ∧ (sumI f d i).toInt ≤ (d : Int) * B ∧ -3000 * (d : Int) ≤ (sumI f d i).toInt ∧ (sumI f d i).toInt ≤ 3000 * (d : Int)
  | 0, i, _, _ => by
    have e : sumI f 0 i = 0 := rfl
    rw [e, show ((0 : Nat) : Int) = 0 from rfl, Int.zero_mul, Int.zero_mul]
    decide
  | d + 1, i, hd, h => by
    obtain ⟨i1, i2, i3, i4⟩ := sumI_bd hA hA0 hB hB0 (f := f) (d := d) (i := i + 1) (by omega) (fun k k1 k2 => h k (by omega) (by omega))
    obtain ⟨j1, j2⟩ := h i (Nat.le_refl i) (by omega)
    simp only [sumI]
    rw [fb_addI (by omega) (by omega)]
    have e1 : ((d + 1 : Nat) : Int) * A = (d : Int) * A + A := by rw [Int.natCast_add, Int.add_mul]; simp
    have e2 : ((d + 1 : Nat) : Int) * B = (d : Int) * B + B := by rw [Int.natCast_add, Int.add_mul]; simp
    rw [e1, e2]
    omega
theorem nI_b {n B : Nat} (h : n ≤ B) (hB : B ≤ 3000) : (0 : Int) ≤ (nI n).toInt ∧ (nI n).toInt ≤ (B : Int) := by
  rw [nI_toInt (by omega)]
  omega
theorem ptA_bd {c d lw : Nat → Nat} (hl : LI lw) (hct : ∀ t, 1 ≤ t → t < 9 → c t ≤ 3) (hcs : ∀ t, 13 ≤ t → t < 16 → sh (c t)) : pN (ptA c d lw) ≤ 21000 := by
  have t1 := sumI_bd (f := ptT c d lw) (A := 0) (B := 999) (by decide) (by decide) (by decide) (by decide) (d := 8) (i := 0) (by decide) (fun k _ k2 => by
    unfold ptT
    split
    · have := hct (1 + k) (by omega) (by omega)
      exact nI_b (hl _ (by omega)) (by decide)
    · exact ⟨Int.le_refl 0, by decide⟩)
  have t2 := sumI_bd (f := ptM c d lw) (A := -999) (B := 999) (by decide) (by decide) (by decide) (by decide) (d := 4) (i := 0) (by decide) (fun k _ k2 => by
    unfold ptM
    have q := nI_b (hl (4 + k) (by omega)) (show 999 ≤ 3000 by decide)
    split
    · split
      · omega
      · rw [fb_negI (by omega)]
        omega
    · decide)
  have t3 := sumI_bd (f := ptS c d lw) (A := 0) (B := 2997) (by decide) (by decide) (by decide) (by decide) (d := 3) (i := 0) (by decide) (fun k _ k2 => by
    unfold ptS
    split
    · decide
    · rename_i h0
      have hs := (hcs (13 + k) (by omega) (by omega)).resolve_left h0
      have a1 := nI_b (hl (7 + c (13 + k) / 10) (by omega)) (show 999 ≤ 3000 by decide)
      have a2 := nI_b (hl (7 + c (13 + k) % 10) (by omega)) (show 999 ≤ 3000 by decide)
      have a3 := nI_b (hl 17 (by decide)) (show 999 ≤ 3000 by decide)
      have s1 : (0 : Int) ≤ (if d (13 + k) = 0 then (0 : Int32) else nI (lw (7 + c (13 + k) / 10)) + nI (lw (7 + c (13 + k) % 10))).toInt ∧ (if d (13 + k) = 0 then (0 : Int32) else nI (lw (7 + c (13 + k) / 10)) + nI (lw (7 + c (13 + k) % 10))).toInt ≤ 1998 := by
        split
        · decide
        · rw [fb_addI (by omega) (by omega)]
          omega
      have s2 : (0 : Int) ≤ (if d (16 + k) = 0 then (0 : Int32) else nI (lw 17)).toInt ∧ (if d (16 + k) = 0 then (0 : Int32) else nI (lw 17)).toInt ≤ 999 := by
        split
        · decide
        · omega
      rw [fb_addI (by omega) (by omega)]
      omega)
  unfold ptA pN
  rw [fb_addI (by rw [fb_addI (by omega) (by omega)]; omega) (by rw [fb_addI (by omega) (by omega)]; omega), fb_addI (by omega) (by omega)]
  omega
def PP (C : Nat → Nat → Nat) (ld nm lw : Nat → Nat) (nl nf b m : Nat) : Nat := if b < nf ∧ m < nl ∧ ld b = b ∧ nm b = 0 ∧ gvn nm m = false then pN (ptV C ld lw nf b m) else 0
theorem PP_le {C : Nat → Nat → Nat} {ld nm lw : Nat → Nat} {nl nf b m : Nat} (hCI : CI C nl nf) (hl : LI lw) (hn : nf ≤ 12) : PP C ld nm lw nl nf b m ≤ 21000 := by
  unfold PP
  split
  · unfold ptV
    split
    · obtain ⟨h1, h2⟩ := bC_rng hCI (ld := ld) (b := b) hn
      exact ptA_bd hl h1 h2
    · decide
  · decide
theorem PP_z {C : Nat → Nat → Nat} {ld nm lw : Nat → Nat} {nl nf b m : Nat} (h : ¬ (b < nf ∧ m < nl)) : PP C ld nm lw nl nf b m = 0 := by
  unfold PP
  rw [if_neg (fun z => h ⟨z.1, z.2.1⟩)]
/-! ===== the class's scratch and what isn't ===== -/
def sameX (I I' : mI) : Prop := ∀ a k, (a ≤ 130 ∨ (166 ≤ a ∧ a ≤ 168) ∨ 180 ≤ a) → I' a k = I a k
theorem sameX.rfl {I : mI} : sameX I I := fun _ _ _ => Eq.refl _
theorem sameX.trans {I I' I'' : mI} (h1 : sameX I I') (h2 : sameX I' I'') : sameX I I'' := fun a k h => (h2 a k h).trans (h1 a k h)
theorem XH.same {I I' : mI} {nl nf : Nat} (h : XH I nl nf) (hs : sameX I I') : XH I' nl nf := ⟨by rw [hs 1 1 (by omega)]; exact h.1, by rw [hs 64 1 (by omega)]; exact h.2.1, h.2.2⟩
theorem XC.same {I I' : mI} {C : Nat → Nat → Nat} (h : XC I C) (hs : sameX I I') : XC I' C := fun F hF t ht => by
  have r := cid_rng hF
  have s := so_le t ht
  rw [hs _ _ (by omega)]
  exact h F hF t ht
theorem XB.same {I I' : mI} {ld nm : Nat → Nat} (h : XB I ld nm) (hs : sameX I I') : XB I' ld nm := fun f hf => ⟨by rw [hs 126 f (by omega)]; exact (h f hf).1, by rw [hs 127 f (by omega)]; exact (h f hf).2⟩
theorem XL.same {I I' : mI} {L : Nat} {lw : Nat → Nat} (h : XL I L lw) (hL : 180 ≤ L) (hs : sameX I I') : XL I' L lw := ⟨fun i a b => by rw [hs _ _ (by omega)]; exact h.1 i a b, fun i a => by rw [hs _ _ (by omega)]; exact h.2.1 i a, fun i a b => by rw [hs _ _ (by omega)]; exact h.2.2.1 i a b, fun i a => by rw [hs _ _ (by omega)]; exact h.2.2.2 i a⟩
theorem XR.L {R : mR} {L L' : Nat} (h : XR R L L') : 180 ≤ L ∧ 180 ≤ L' ∧ L ≤ 185 ∧ L' ≤ 185 := by
  rcases h.2.2.2 with ⟨rfl, rfl⟩ | ⟨rfl, rfl⟩ <;> decide
theorem nmI_nI {x m : Nat} (hx : x < 2 ^ 31) (hm : m < 2 ^ 31) : nmI x = nI m ↔ x = m + 1 := by
  by_cases h : x = 0
  · subst h
    rw [nmI_0]
    constructor
    · intro e; exact absurd e.symm (nI_nm1 hm)
    · intro e; omega
  · rw [nmI_s h, nI_eq (by omega) hm]
    omega
theorem x_hasGiven {R : mR} {L L' : Nat} (hR : XR R L L') {ld nm : Nat → Nat} {nl nf m : Nat} (hBI : BI ld nm nl nf) (hn : nl ≤ 12) (hm : m < 12) (I : mI) (J : mJ) (hB : XB I ld nm) : f_X0_hasGiven kX 63 (nI m) I J R = some (gvn nm m) := by
  obtain ⟨-, -, -, -, -, -, r6, -, -⟩ := hR.b
  have Lp : ∀ (N e i : Nat), i + e = 12 → e < N → f_X0_hasGiven_L2 kX 63 (nI m) I J R N (nI i) = some (cond (sufA (fun f => decide (nm f = m + 1)) e i) (Sum.inl true) (Sum.inr ())) := by
    intro N
    induction N with
    | zero => intro e i e1 e2; omega
    | succ N ih =>
      intro e i e1 e2
      rw [f_X0_hasGiven_L2]
      by_cases hi : e = 0
      · subst hi
        rw [if_pos (show (12 : Int32) ≤ nI i from nI_le (show 12 ≤ i by omega) (by omega))]
        rfl
      · obtain ⟨e', rfl⟩ : ∃ e', e = e' + 1 := ⟨e - 1, by omega⟩
        have ih' := ih e' (i + 1) (by omega) (by omega)
        have hi12 : i < 12 := by omega
        have bn := (hBI i hi12).2.2.2.1
        rw [if_neg (ge12 hi12), if_pos q63, r6, Option.bind_some, if_pos (mx i q127 hi12 (by decide)), nI_c (show i < 2 ^ 31 by omega), (hB i hi12).2, nI_s1]
        simp only [sufA]
        by_cases z : nm i = m + 1
        · rw [if_pos ((nmI_nI (by omega) (by omega)).mpr z), decide_eq_true z, Bool.true_or, cond_true]
        · rw [if_neg (fun q => z ((nmI_nI (by omega) (by omega)).mp q)), decide_eq_false z, Bool.false_or, ih']
  rw [f_X0_hasGiven, show f_X0_hasGiven_L2 kX 63 (nI m) I J R 8192 0 = _ from Lp 8192 12 0 rfl (by decide), Option.bind_some]
  unfold gvn
  cases sufA (fun f => decide (nm f = m + 1)) 12 0 <;> rfl
theorem XR.p3 {R : mR} {L L' : Nat} (h : XR R L L') : R 0 3 = some 131 := h.at (by decide) (by decide) rfl
theorem x_pu_L56 {R : mR} {L L' : Nat} (hR : XR R L L') {C : Nat → Nat → Nat} {ld nm lw : Nat → Nat} {nl nf b : Nat} (hCI : CI C nl nf) (hBI : BI ld nm nl nf) (hb : b < 12) (g : Bool) (I : mI) (J : mJ) (hH : XH I nl nf) (hC : XC I C) (hB : XB I ld nm) (hl : XL I L lw) (hg : g = true → b < nf ∧ ld b = b ∧ nm b = 0 ∧ bodyv I 170 (bC C ld b nf)) (hg0 : g = false → ¬ (b < nf ∧ ld b = b ∧ nm b = 0)) : ∀ (N m : Nat), m ≤ 12 → 12 - m < N → f_X8_pairUp_L56 kX 0 (nI b) g J R N (nI m) (rowU I (133 + b) 0 m (fun k => nI (PP C ld nm lw nl nf b k))) = some (rowU I (133 + b) 0 12 (fun k => nI (PP C ld nm lw nl nf b k))) := by
  obtain ⟨r0, r1, r6, -, -, -, -, -, -⟩ := hR.b
  have p3 := hR.p3
  obtain ⟨pr0, -, -, -, -, -, -, -, -⟩ := hR.p
  have hLb := hR.L
  intro N
  induction N with
  | zero => intro m h1 h2; omega
  | succ N ih =>
    intro m h1 h2
    rw [f_X8_pairUp_L56]
    by_cases hm : m = 12
    · subst hm
      rw [if_pos ge12']
    · have hm : m < 12 := by omega
      have ih' := ih (m + 1) (by omega) (by omega)
      generalize hI' : rowU I (133 + b) 0 m (fun k => nI (PP C ld nm lw nl nf b k)) = I' at *
      have hs : sameX I I' := fun a k h => by rw [← hI', rowU_ne (by omega)]
      have wr : ∀ v, v = nI (PP C ld nm lw nl nf b m) → mup I' (133 + b) m v = rowU I (133 + b) 0 (m + 1) (fun k => nI (PP C ld nm lw nl nf b k)) := fun v hv => by rw [← hI']; exact rowU_s (Nat.zero_le m) hv
      have zero : PP C ld nm lw nl nf b m = 0 → ((R 0 3).bind fun x39 => if kX x39 = (0, 4) then (R x39 0).bind fun x42 => if mIx kX x42 6 (nI b) then (R x42 (nI b).toNatClampNeg).bind fun x45 => if mIx kX x45 1 (nI m) then (some (mup I' x45 (nI m).toNatClampNeg (0 : Int32))).bind fun I49 => f_X8_pairUp_L56 kX 0 (nI b) g J R N (nI m + (1 : Int32)) I49 else none else none else none) = some (rowU I (133 + b) 0 12 (fun k => nI (PP C ld nm lw nl nf b k))) := fun hz => by
        rw [p3, Option.bind_some, if_pos k131, pr0, Option.bind_some, if_pos (mx b k132 hb (by decide)), nI_c (show b < 2 ^ 31 by omega), hR.pts hb, Option.bind_some, if_pos (mx m (KX_pts b hb) hm (by decide)), Option.bind_some, nI_c (show m < 2 ^ 31 by omega), nI_s1, wr 0 (by rw [hz]; rfl)]
        exact ih'
      rw [if_neg (ge12 hm), if_pos q0, r0, Option.bind_some, if_pos q1]
      by_cases hml : m < nl
      · rw [x_find_yes hR (hH.same hs) hml, Option.bind_some]
        cases g with
        | false =>
          rw [if_pos mb_f]
          exact zero (by unfold PP; rw [if_neg (fun z => hg0 rfl ⟨z.1, z.2.2.1, z.2.2.2.1⟩)])
        | true =>
          obtain ⟨g1, g2, g3, g4⟩ := hg rfl
          rw [if_neg (by decide)]
          show ((R 0 1).bind _) = _
          rw [r1, Option.bind_some, if_pos q63, x_hasGiven hR hBI hH.2.2.1 hm I' J (hB.same hs), Option.bind_some]
          by_cases hv : gvn nm m = true
          · rw [hv, if_neg (by decide)]
            exact zero (by unfold PP; rw [if_neg (fun z => by rw [hv] at z; exact absurd z.2.2.2.2 (by decide))])
          · have hv : gvn nm m = false := by simpa using hv
            have b4 : bodyv I' 170 (bC C ld b nf) := fun t t1 t2 => by
              have := so_le t t1
              rw [← hI', rowU_ne (by omega)]
              exact g4 t t1 t2
            obtain ⟨e1, e2⟩ := bC_rng hCI (ld := ld) (b := b) hH.2.2.2
            rw [hv, if_pos mb_f, p3, Option.bind_some, if_pos k131, pr0, Option.bind_some, if_pos (mx b k132 hb (by decide)), nI_c (show b < 2 ^ 31 by omega), hR.pts hb, Option.bind_some, hR.2.1, Option.bind_some, r6, Option.bind_some, if_pos hR.law.1.1, x_weigh hR.law.1 hR.seen.1 (hR.card (show m < 24 by omega)) (c := bC C ld b nf) (d := C m) (fun t ht => by have := bC_lt hCI (ld := ld) (b := b) hH.2.2.2 t ht; omega) e1 e2 (fun t ht => by have := hCI.lt (show m < 24 by omega) ht; omega) b4 (hC.same hs m (by omega)) (hl.same hLb.1 hs), Option.bind_some, if_pos (mx m (KX_pts b hb) hm (by decide)), Option.bind_some, nI_c (show m < 2 ^ 31 by omega), nI_s1, imax_pN, wr _ (by
              rw [show PP C ld nm lw nl nf b m = pN (ptV C ld lw nf b m) by (unfold PP; rw [if_pos ⟨g1, hml, g2, g3, hv⟩])]
              rfl)]
            exact ih'
      · rw [x_find_no hR (hH.same hs) (Or.inr (nI_le (by omega) (by omega))), Option.bind_some]
        have hz : PP C ld nm lw nl nf b m = 0 := PP_z (fun z => hml z.2)
        cases g with
        | false => rw [if_pos mb_f]; exact zero hz
        | true => rw [if_neg (by decide)]; exact zero hz
