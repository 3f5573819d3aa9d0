/-! ===== the model's state in plain numbers ===== -/
def MH (I : mI) (nl nf : Nat) : Prop := I 1 0 = nI nl ∧ I 1 1 = nI nf ∧ nl ≤ 12 ∧ nf ≤ 12
def MC (I : mI) (C : Nat → Nat → Nat) (nl nf : Nat) : Prop := ∀ F, F < 24 → (∀ t, t < 19 → I 2 (19 * F + t) = nI (C F t)) ∧ I 3 F = nI (C F 19) ∧ (vF nl nf F → I 4 F = nI (C F 20)) ∧ (12 ≤ F → I 5 (F - 12) = nI (C F 21))
def MB (I : mI) (ld nm : Nat → Nat) (nf : Nat) : Prop := ∀ f, f < nf → I 6 f = nI (ld f) ∧ I 7 f = nmI (nm f)
def ML (I : mI) (lw : Nat → Nat) : Prop := ∀ i, i < 21 → I 14 i = nI (lw i)
theorem m_isIn (K : mK) (x lo hi : Int32) (I : mI) (J : mJ) (R : mR) : f_X9_isIn K x lo hi I J R = some (!decide (x < lo) && !decide (hi < x)) := by
  rw [f_X9_isIn]
  by_cases h1 : x < lo
  · rw [if_pos h1]; simp [h1]
  · rw [if_neg h1]
    by_cases h2 : hi < x
    · rw [if_pos h2]; simp [h2]
    · rw [if_neg h2]; simp [h1, h2]
theorem i32_lt_irrefl {x : Int32} : ¬ x < x := fun h => by
  have := Int32.lt_iff_toInt_lt.mp h
  omega
theorem m_isFile_side {x y : Int32} (h0 : ¬ x = 0) (h1 : ¬ x = 1) (I : mI) (J : mJ) : f_X9_isFile kM 0 x y I J rM = some false := by
  rw [f_X9_isFile, m_isIn, Option.bind_some]
  have : (!decide (x < 0) && !decide ((1 : Int32) < x)) = false := by
    by_cases a : x < 0
    · simp [a]
    · by_cases b : (1 : Int32) < x
      · simp [b]
      · exfalso
        have a' : ¬ x.toInt < (0 : Int32).toInt := fun z => a (Int32.lt_iff_toInt_lt.mpr z)
        have b' : ¬ (1 : Int32).toInt < x.toInt := fun z => b (Int32.lt_iff_toInt_lt.mpr z)
        have e0 : (0 : Int32).toInt = 0 := rfl
        have e1 : (1 : Int32).toInt = 1 := rfl
        rcases (show x.toInt = 0 ∨ x.toInt = 1 by omega) with e | e
        · exact h0 (Int32.toInt_inj.mp (by rw [e, e0]))
        · exact h1 (Int32.toInt_inj.mp (by rw [e, e1]))
  rw [this, if_pos mb_f]
theorem m_isFile {s n : Nat} (hs : s < 2) {x : Int32} {I : mI} (J : mJ) (hn : I 1 s = nI n) : f_X9_isFile kM 0 (nI s) x I J rM = some (!decide (x < 0) && !decide (nI n - 1 < x)) := by
  rw [f_X9_isFile, m_isIn, Option.bind_some]
  have e : (!decide (nI s < 0) && !decide ((1 : Int32) < nI s)) = true := by
    rcases (show s = 0 ∨ s = 1 by omega) with rfl | rfl <;> decide
  rw [e, if_neg (by decide), if_pos km0, rq0, Option.bind_some, if_pos (mx s km1 hs (by decide)), nI_c (by omega), hn, m_isIn, Option.bind_some]
  by_cases h : (!decide (x < 0) && !decide (nI n - 1 < x)) = true
  · rw [h, if_neg (by decide)]
  · have h : (!decide (x < 0) && !decide (nI n - 1 < x)) = false := by simpa using h
    rw [h, if_pos mb_f]
theorem m_isFile_no {s n : Nat} (hs : s < 2) (hn12 : n ≤ 12) {x : Int32} {I : mI} (J : mJ) (hn : I 1 s = nI n) (hx : x < 0 ∨ nI n ≤ x) : f_X9_isFile kM 0 (nI s) x I J rM = some false := by
  rw [m_isFile hs J hn]
  by_cases h : x < 0
  · simp [h]
  · have h2 := hx.resolve_left h
    have : nI n - 1 < x := by
      have a := Int32.le_iff_toInt_le.mp h2
      rw [nI_toInt (by omega)] at a
      rw [Int32.lt_iff_toInt_lt]
      by_cases h0 : n = 0
      · subst h0
        have e : (nI 0 - 1).toInt = -1 := by decide
        rw [e]
        omega
      · rw [nI_m1 (by omega), nI_toInt (by omega)]
        omega
    simp [this]
theorem m_isFile_yes {s n j : Nat} (hs : s < 2) (hn12 : n ≤ 12) (hj : j < n) {I : mI} (J : mJ) (hn : I 1 s = nI n) : f_X9_isFile kM 0 (nI s) (nI j) I J rM = some true := by
  rw [m_isFile hs J hn, decide_eq_false (nI_pos (by omega)), nI_m1 (by omega), decide_eq_false (nI_nlt (by omega) (by omega))]
  rfl
/-! a body's things -/
theorem bC_start {C : Nat → Nat → Nat} {ld : Nat → Nat} {b : Nat} (h : ∀ f, f < b → ld f ≠ b) : ∀ n, n ≤ b → bC C ld b n = bC C ld b 0
  | 0, _ => rfl
  | n + 1, hn => by
    rw [← bC_start h n (by omega)]
    conv => lhs; unfold bC
    rw [if_neg (h n (by omega))]
theorem bC_keep {C : Nat → Nat → Nat} {ld : Nat → Nat} {b t n : Nat} (ht : t < 19) (h : bC C ld b n t ≠ 0) : ∀ d, bC C ld b (n + d) t = bC C ld b n t
  | 0 => rfl
  | d + 1 => by
    have ih := bC_keep ht h d
    rw [show n + (d + 1) = n + d + 1 by omega]
    conv => lhs; unfold bC
    split
    · unfold lrn
      rw [if_neg (by omega), if_neg (by omega), if_neg (by omega), if_neg (by rw [ih]; exact h), ih]
    · exact ih
theorem m_ofBody {C : Nat → Nat → Nat} {ld nm : Nat → Nat} {nl nf b t : Nat} (hCI : CI C nl nf) (hBI : BI ld nm nl nf) (hb : b < nf) (ht : t < 19) (I : mI) (J : mJ) (hH : MH I nl nf) (hC : MC I C nl nf) (hB : MB I ld nm nf) : f_X9_ofBody kM 0 (nI b) (nI t) I J rM = some (nI (bC C ld b nf t)) := by
  obtain ⟨h1, h2, h3, h4⟩ := hH
  have Lp : ∀ (N d j : Nat), j + d = nf → d < N → bC C ld b j t = 0 → ∃ z, f_X9_ofBody_L2 kM 0 (nI b) (nI t) I J rM N (nI j) = some z ∧ Sum.elim (fun o => some o) (fun _ => some (0 : Int32)) z = some (nI (bC C ld b nf t)) := by
    intro N
    induction N with
    | zero => intro d j e1 e2; omega
    | succ N ih =>
      intro d j e1 e2 e3
      rw [f_X9_ofBody_L2, if_pos km0, rq0, Option.bind_some, if_pos (show mIx kM 1 1 (1 : Int32) from mx 1 km1 (by decide) (by decide)), cl1, h2]
      by_cases hd : d = 0
      · have : j = nf := by omega
        subst this
        exact ⟨_, by rw [if_pos (nI_le (Nat.le_refl _) (by omega))], by rw [e3]; rfl⟩
      · have hj : j < nf := by omega
        have ix : (19 : Int32) * ((12 : Int32) + nI j) + nI t = nI (19 * (12 + j) + t) := by rw [show (19 : Int32) = nI 19 from rfl, show (12 : Int32) = nI 12 from rfl, nI_add, pk_mul, nI_add]
        have hcl := hCI.lt (show 12 + j < 24 by omega) (show t < 22 by omega)
        have hld := (hBI j (by omega)).1
        rw [if_neg (nI_ge hj (by omega)), rq1, Option.bind_some, ix, if_pos (mx _ km2 (by omega) (by decide)), Option.bind_some, rq5, Option.bind_some, if_pos (mx j km6 (by omega) (by decide)), nI_c (show 19 * (12 + j) + t < 2 ^ 31 by omega), nI_c (show j < 2 ^ 31 by omega), (hB j hj).1, (hC (12 + j) (by omega)).1 t ht, nI_s1]
        by_cases hl : ld j = b
        · rw [hl, if_pos rfl]
          have step : bC C ld b (j + 1) t = C (12 + j) t := by
            conv => lhs; unfold bC
            rw [if_pos hl]
            unfold lrn
            rw [if_neg (by omega), if_neg (by omega), if_neg (by omega), if_pos e3]
          by_cases z : C (12 + j) t = 0
          · rw [if_pos ((nI_z (by omega)).mpr z)]
            exact ih (d - 1) (j + 1) (by omega) (by omega) (by rw [step]; exact z)
          · rw [if_neg (fun q => z ((nI_z (by omega)).mp q))]
            refine ⟨_, rfl, ?_⟩
            have k := bC_keep ht (n := j + 1) (by rw [step]; exact z) (nf - (j + 1))
            rw [show j + 1 + (nf - (j + 1)) = nf by omega, step] at k
            rw [k]
            rfl
        · rw [if_neg (fun z => hl ((nI_eq (by omega) (by omega)).mp z))]
          refine ih (d - 1) (j + 1) (by omega) (by omega) ?_
          conv => lhs; unfold bC
          rw [if_neg hl]
          exact e3
  have st : bC C ld b b t = 0 := by
    rw [bC_start (fun f hf e => by have := (hBI f (by omega)).1; omega) b (Nat.le_refl b)]
    show (if t = 20 then 120 else 0) = 0
    rw [if_neg (by omega)]
  obtain ⟨z, o1, o2⟩ := Lp 8192 (nf - b) b (by omega) (by omega) st
  rw [f_X9_ofBody, o1, Option.bind_some]
  exact o2
theorem m_ageOf {C : Nat → Nat → Nat} {ld nm : Nat → Nat} {nl nf b : Nat} (hCI : CI C nl nf) (hBI : BI ld nm nl nf) (hb : b < nf) (g : Bool) (I : mI) (J : mJ) (hH : MH I nl nf) (hC : MC I C nl nf) (hB : MB I ld nm nf) : f_X9_ageOf kM 0 (nI b) g I J rM = some (nI (bC C ld b nf (if g = true then 20 else 19))) := by
  obtain ⟨h1, h2, h3, h4⟩ := hH
  have Lp : ∀ (N d j : Nat), j + d = nf → d < N → f_X9_ageOf_L14 kM 0 (nI b) g I J rM N (nI (bC C ld b j (if g = true then 20 else 19))) (nI j) = some (nI (bC C ld b nf (if g = true then 20 else 19))) := by
    intro N
    induction N with
    | zero => intro d j e1 e2; omega
    | succ N ih =>
      intro d j e1 e2
      rw [f_X9_ageOf_L14, if_pos km0, rq0, Option.bind_some, if_pos (show mIx kM 1 1 (1 : Int32) from mx 1 km1 (by decide) (by decide)), cl1, h2]
      by_cases hd : d = 0
      · have : j = nf := by omega
        subst this
        rw [if_pos (nI_le (Nat.le_refl _) (by omega))]
      · have hj : j < nf := by omega
        have ix : (12 : Int32) + nI j = nI (12 + j) := by rw [show (12 : Int32) = nI 12 from rfl, nI_add]
        have hld := (hBI j (by omega)).1
        have bl := bC_lt hCI (ld := ld) (b := b) (show j ≤ 12 by omega)
        have cl : ∀ t, t < 22 → C (12 + j) t < 256 := fun t ht => hCI.lt (show 12 + j < 24 by omega) ht
        have ih' := ih (d - 1) (j + 1) (by omega) (by omega)
        rw [if_neg (nI_ge hj (by omega)), rq5, Option.bind_some, if_pos (mx j km6 (by omega) (by decide)), nI_c (show j < 2 ^ 31 by omega), (hB j hj).1, nI_s1]
        by_cases hl : ld j = b
        · have step : bC C ld b (j + 1) = lrn (bC C ld b j) (C (12 + j)) := by
            conv => lhs; unfold bC
            rw [if_pos hl]
          rw [step] at ih'
          rw [hl, if_pos rfl]
          cases g with
          | false =>
            have q1 := bl 19 (by decide)
            have q2 := cl 19 (by decide)
            rw [if_pos mb_f, rq2, Option.bind_some, ix, if_pos (mx _ km3 (show 12 + j < 24 by omega) (by decide)), nI_c (show 12 + j < 2 ^ 31 by omega), (hC (12 + j) (by omega)).2.1]
            simp only [Bool.false_eq_true, if_false] at ih' ⊢
            rw [imax_nI (by omega) (by omega)]
            exact ih'
          | true =>
            have q1 := bl 20 (by decide)
            have q2 := cl 20 (by decide)
            rw [if_neg (by decide), rq3, Option.bind_some, ix, if_pos (mx _ km4 (show 12 + j < 24 by omega) (by decide)), nI_c (show 12 + j < 2 ^ 31 by omega), (hC (12 + j) (by omega)).2.2.1 (Or.inr ⟨by omega, by omega, by omega⟩)]
            simp only [if_true] at ih' ⊢
            rw [imin_nI (by omega) (by omega)]
            exact ih'
        · have step : bC C ld b (j + 1) = bC C ld b j := by
            conv => lhs; unfold bC
            rw [if_neg hl]
          rw [step] at ih'
          rw [if_neg (fun z => hl ((nI_eq (by omega) (by omega)).mp z))]
          exact ih'
  have st := bC_start (C := C) (fun f hf e => by have := (hBI f (by omega)).1; omega : ∀ f, f < b → ld f ≠ b) b (Nat.le_refl b)
  have := Lp 8192 (nf - b) b (by omega) (by omega)
  rw [st] at this
  rw [f_X9_ageOf]
  cases g with
  | false => rw [if_pos mb_f, show f_X9_ageOf_L14 kM 0 (nI b) false I J rM 8192 0 (nI b) = _ from this, Option.bind_some]
  | true => rw [if_neg (by decide), show f_X9_ageOf_L14 kM 0 (nI b) true I J rM 8192 120 (nI b) = _ from this, Option.bind_some]
theorem m_piecesOf {C : Nat → Nat → Nat} {ld nm : Nat → Nat} {nl nf b : Nat} (hBI : BI ld nm nl nf) (hb : b < 12) (I : mI) (J : mJ) (hH : MH I nl nf) (hC : ∀ f, f < nf → I 5 f = nI (C (12 + f) 21)) (hB : MB I ld nm nf) : f_X9_piecesOf kM 0 (nI b) I J rM = some (nI (bC C ld b nf 21)) := by
  obtain ⟨h1, h2, h3, h4⟩ := hH
  have Lp : ∀ (N d j : Nat), j + d = nf → d < N → f_X9_piecesOf_L4 kM 0 (nI b) I J rM N (nI (bC C ld b j 21)) (nI j) = some (nI (bC C ld b nf 21)) := by
    intro N
    induction N with
    | zero => intro d j e1 e2; omega
    | succ N ih =>
      intro d j e1 e2
      rw [f_X9_piecesOf_L4, if_pos km0, rq0, Option.bind_some, if_pos (show mIx kM 1 1 (1 : Int32) from mx 1 km1 (by decide) (by decide)), cl1, h2]
      by_cases hd : d = 0
      · have : j = nf := by omega
        subst this
        rw [if_pos (nI_le (Nat.le_refl _) (by omega))]
      · have hj : j < nf := by omega
        have hld := (hBI j (by omega)).1
        have ih' := ih (d - 1) (j + 1) (by omega) (by omega)
        rw [if_neg (nI_ge hj (by omega)), rq5, Option.bind_some, if_pos (mx j km6 (by omega) (by decide)), nI_c (show j < 2 ^ 31 by omega), (hB j hj).1, nI_s1]
        by_cases hl : ld j = b
        · have step : bC C ld b (j + 1) = lrn (bC C ld b j) (C (12 + j)) := by
            conv => lhs; unfold bC
            rw [if_pos hl]
          rw [step] at ih'
          rw [hl, if_pos rfl, rq4, Option.bind_some, if_pos (mx j km5 (by omega) (by decide)), hC j hj, fa_or]
          exact ih'
        · have step : bC C ld b (j + 1) = bC C ld b j := by
            conv => lhs; unfold bC
            rw [if_neg hl]
          rw [step] at ih'
          rw [if_neg (fun z => hl ((nI_eq (by omega) (by omega)).mp z))]
          exact ih'
  rw [f_X9_piecesOf, show f_X9_piecesOf_L4 kM 0 (nI b) I J rM 8192 0 0 = _ from Lp 8192 nf 0 (by omega) (by omega), Option.bind_some]
theorem m_one (b : Bool) (I : mI) (J : mJ) (R : mR) : f_X9_one kM b I J R = some (mb b) := by
  rw [f_X9_one]
  cases b
  · rw [if_pos mb_f]; rfl
  · rw [if_neg (by decide)]; rfl
theorem m_sizeOf {ld nm : Nat → Nat} {nl nf b : Nat} (hBI : BI ld nm nl nf) (hb : b < 12) (I : mI) (J : mJ) (hH : MH I nl nf) (hB : MB I ld nm nf) : f_X9_sizeOf kM 0 (nI b) I J rM = some (nI (fb_ct (fun f => decide (ld f = b)) nf)) := by
  obtain ⟨h1, h2, h3, h4⟩ := hH
  have Lp : ∀ (N d j : Nat), j + d = nf → d < N → f_X9_sizeOf_L4 kM 0 (nI b) I J rM N (nI (fb_ct (fun f => decide (ld f = b)) j)) (nI j) = some (nI (fb_ct (fun f => decide (ld f = b)) nf)) := by
    intro N
    induction N with
    | zero => intro d j e1 e2; omega
    | succ N ih =>
      intro d j e1 e2
      rw [f_X9_sizeOf_L4, if_pos km0, rq0, Option.bind_some, if_pos (show mIx kM 1 1 (1 : Int32) from mx 1 km1 (by decide) (by decide)), cl1, h2]
      by_cases hd : d = 0
      · have : j = nf := by omega
        subst this
        rw [if_pos (nI_le (Nat.le_refl _) (by omega))]
      · have hj : j < nf := by omega
        have hld := (hBI j (by omega)).1
        have ih' := ih (d - 1) (j + 1) (by omega) (by omega)
        rw [fb_ct_succ] at ih'
        rw [if_neg (nI_ge hj (by omega)), rq5, Option.bind_some, if_pos (mx j km6 (by omega) (by decide)), nI_c (show j < 2 ^ 31 by omega), (hB j hj).1, nI_s1]
        by_cases hl : ld j = b
        · rw [hl, if_pos rfl, m_one, Option.bind_some, mb_t, nI_s1]
          simp only [hl, decide_true, if_true] at ih'
          exact ih'
        · rw [if_neg (fun z => hl ((nI_eq (by omega) (by omega)).mp z)), m_one, Option.bind_some, mb_f, Int32.add_zero]
          simp only [hl, decide_false, Bool.false_eq_true, if_false, Nat.add_zero] at ih'
          exact ih'
  rw [f_X9_sizeOf, show f_X9_sizeOf_L4 kM 0 (nI b) I J rM 8192 0 0 = _ from Lp 8192 nf 0 (by omega) (by omega), Option.bind_some]
theorem m_ofMissing {C : Nat → Nat → Nat} {nl nf m t : Nat} (hm : m < 12) (ht : t < 19) (I : mI) (J : mJ) (hC : MC I C nl nf) : f_X9_ofMissing kM 0 (nI m) (nI t) I J rM = some (nI (C m t)) := by
  have ix : (19 : Int32) * nI m + nI t = nI (19 * m + t) := by rw [show (19 : Int32) = nI 19 from rfl, pk_mul, nI_add]
  rw [f_X9_ofMissing, if_pos km0, rq1, Option.bind_some, ix, if_pos (mx _ km2 (by omega) (by decide)), nI_c (by omega), (hC m (by omega)).1 t ht]
theorem m_areUnlike {x y : Nat} (hx : x < 2 ^ 31) (hy : y < 2 ^ 31) (I : mI) (J : mJ) (R : mR) : f_X9_areUnlike kM (nI x) (nI y) I J R = some (unl x y) := by
  rw [f_X9_areUnlike]
  unfold unl
  by_cases e1 : x = 0
  · rw [if_pos ((nI_z hx).mpr e1)]; simp [e1]
  · rw [if_neg (fun z => e1 ((nI_z hx).mp z))]
    by_cases e2 : y = 0
    · rw [if_pos ((nI_z hy).mpr e2)]; simp [e2]
    · rw [if_neg (fun z => e2 ((nI_z hy).mp z))]
      by_cases e3 : x = y
      · rw [if_pos (by rw [e3])]; simp [e3]
      · rw [if_neg (fun z => e3 ((nI_eq hx hy).mp z))]; simp [e1, e2, e3]
theorem m_sharesNone {x y : Nat} (hx : x < 1000) (hy : y < 1000) (I : mI) (J : mJ) (R : mR) : f_X9_sharesNone kM (nI x) (nI y) I J R = some (shn x y) := by
  rw [f_X9_sharesNone, m10 (show x < 2 ^ 31 by omega), m10 (show y < 2 ^ 31 by omega), d10 (show x < 2 ^ 31 by omega), d10 (show y < 2 ^ 31 by omega)]
  unfold shn
  by_cases e1 : x % 10 = y % 10
  · rw [if_pos (by rw [e1])]; simp [e1]
  · rw [if_neg (fun z => e1 ((nI_eq (by omega) (by omega)).mp z))]
    by_cases e2 : x % 10 = y / 10
    · rw [if_pos (by rw [e2])]; simp [e2]
    · rw [if_neg (fun z => e2 ((nI_eq (by omega) (by omega)).mp z))]
      by_cases e3 : x / 10 = y % 10
      · rw [if_pos (by rw [e3])]; simp [e3]
      · rw [if_neg (fun z => e3 ((nI_eq (by omega) (by omega)).mp z))]
        by_cases e4 : x / 10 = y / 10
        · rw [if_pos (by rw [e4])]; simp [e4]
        · rw [if_neg (fun z => e4 ((nI_eq (by omega) (by omega)).mp z))]
          simp [Ne.symm e1, Ne.symm e2, Ne.symm e3, Ne.symm e4]
