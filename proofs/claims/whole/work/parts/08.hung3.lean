/-! ===== the class's place() keeps the method ===== -/
def wv (J : mJ) (i j : Nat) : Int := (J (147 + i) j).toInt
def uv (J : mJ) (i : Nat) : Int := (J 161 i).toInt
def vv (J : mJ) (j : Nat) : Int := (J 162 j).toInt
def gv (J : mJ) (j : Nat) : Int := (J 163 j).toInt
def mI3 (I : mI) (p : Nat → Nat) (t : Nat → Bool) (q : Nat → Nat) : Prop := (∀ j, j < 13 → I 160 j = nI (p j)) ∧ (∀ j, j < 13 → I 165 j = mb (t j)) ∧ (∀ j, 1 ≤ j → j < 13 → I 164 j = nI (q j))
theorem negL {x : Int64} (h1 : -9223372036854775807 ≤ x.toInt) : (-x).toInt = -x.toInt := by
  have h2 := (fb_rngL x).2
  rw [Int64.toInt_neg, fb_bmodL (by omega) (by omega)]
theorem hsl_int {J : mJ} {r j : Nat} (hw : 0 ≤ wv J r j ∧ wv J r j ≤ 500000000000000000) (hu : -500000000000000000 ≤ uv J r ∧ uv J r ≤ 0) (hv : -500000000000000000 ≤ vv J j ∧ vv J j ≤ 0) : (hsl J r j).toInt = psl (wv J) (uv J) (vv J) r j := by
  simp only [wv, uv, vv] at hw hu hv
  have e1 : (-(J (147 + r) j)).toInt = -(J (147 + r) j).toInt := negL (by omega)
  have e2 : ((-(J (147 + r) j)) - J 161 r).toInt = -(J (147 + r) j).toInt - (J 161 r).toInt := by
    rw [fb_subL (by rw [e1]; omega) (by rw [e1]; omega), e1]
  unfold hsl
  rw [fb_subL (by rw [e2]; omega) (by rw [e2]; omega), e2]
  rfl
theorem hcd_iff {I : mI} {J : mJ} {r j : Nat} {b : Bool} (hb : I 165 j = mb b) : hcd I J r j = true ↔ b = false ∧ (hsl J r j).toInt < gv J j := by
  unfold hcd gv
  rw [hb, Bool.and_eq_true, decide_eq_true_iff, mb_0, Bool.not_eq_true', decide_eq_false_iff_not, lg_cmp_ge, Int64.le_iff_toInt_le, Int.not_le]
theorem h_inner {R : mR} {L L' : Nat} (hR : XR R L L') {w : Nat → Nat → Int} {r : Nat} (hr : r < 12) (hw : ∀ i j, 1 ≤ i → i < 13 → 1 ≤ j → j < 13 → 0 ≤ w i j ∧ w i j ≤ 500000000000000000) :
    ∀ (N s x : Nat) (I : mI) (J : mJ) (p : Nat → Nat) (t : Nat → Bool) (q rk : Nat → Nat), mI3 I p t q → (∀ i j, 1 ≤ i → i < 13 → 1 ≤ j → j < 13 → wv J i j = w i j) → pV w r s x p t q rk (uv J) (vv J) (gv J) → 14 ≤ N + s →
      ∃ (x' : Nat) (I' : mI) (J' : mJ) (s' : Nat) (t' : Nat → Bool) (q' rk' : Nat → Nat), f_X4_place_L41 kX 131 R N (nI x) (nI s) I J = some (nI x', I', J') ∧ p x' = 0 ∧ mI3 I' p t' q' ∧ (∀ i j, 1 ≤ i → i < 13 → 1 ≤ j → j < 13 → wv J' i j = w i j) ∧ pV w r s' x' p t' q' rk' (uv J') (vv J') (gv J') ∧ s' ≤ 12 ∧ (∀ a k, a ≠ 164 → a ≠ 165 → I' a k = I a k) ∧ (∀ a k, a ≠ 161 → a ≠ 162 → a ≠ 163 → J' a k = J a k) := by
  obtain ⟨-, -, -, r4, -, -, r7, -, r9⟩ := hR.p
  intro N
  induction N with
  | zero =>
    intro s x I J p t q rk hm hwj hV hN
    have := hV.2.2.2.2.2.2.2.2.1.2
    have := fb_ct_le t 13
    omega
  | succ N ih =>
    intro s x I J p t q rk hm hwj hV hN
    obtain ⟨bu, bv⟩ := p_bounds hV hr hw
    obtain ⟨⟨a1, a2⟩, a3, a4, ⟨b1, b2⟩, ⟨c1, c2, c3, c4⟩, d1, d2, d3, ⟨e1, e2⟩, f1, f2, f3, f4, f5⟩ := id hV
    obtain ⟨m1, m2, m3⟩ := id hm
    have hs : s < 13 := by
      have h1 := fb_ct_le t 13
      by_cases h : s = 13
      · rw [h] at e2
        have := fb_ct_all.mp e2 x c2
        rw [c3] at this
        cases this
      · omega
    rw [f_X4_place_L41, if_neg (ge13 hs), if_pos k131, r4, Option.bind_some, if_pos (mIx_of k160 c2 (by decide)), nI_c (show x < 2 ^ 31 by omega), m1 x c2]
    have hpx := a2 x c1 c2
    by_cases hx : p x = 0
    · rw [hx, if_pos nI_0]
      exact ⟨x, I, J, s, t, q, rk, rfl, hx, hm, hwj, hV, by omega, fun _ _ _ _ => rfl, fun _ _ _ _ _ => rfl⟩
    · rw [if_neg (nI_ne0 (by omega) (by omega)), r9, Option.bind_some, if_pos (mIx_of k165 c2 (by decide)), Option.bind_some]
      generalize hI1 : mup I 165 x (mb true) = I1
      have i160 : ∀ k, I1 160 k = I 160 k := fun k => by rw [← hI1]; exact mup_ne _ _ (by omega)
      have i164 : ∀ k, I1 164 k = I 164 k := fun k => by rw [← hI1]; exact mup_ne _ _ (by omega)
      have i165 : ∀ j, j < 13 → I1 165 j = mb (if j = x then true else t j) := fun j hj => by
        rw [← hI1]
        by_cases h : j = x
        · rw [h, mup_eq]; simp
        · rw [mup_ne _ _ (fun e => h e.2), m2 j hj]; simp [h]
      rw [h_measure hR x (p x) c2 (by omega) I1 J ((i160 x).trans (m1 x c2)), Option.bind_some]
      have hsx : ∀ j, 1 ≤ j → j < 13 → (hsl J (p x) j).toInt = psl w (uv J) (vv J) (p x) j := fun j j1 j2 => by
        rw [hsl_int (by rw [hwj _ j (by omega) (by omega) j1 j2]; exact hw _ j (by omega) (by omega) j1 j2) (bu _ (by omega) (by omega)) (bv j j1 j2)]
        simp only [psl]
        rw [hwj _ j (by omega) (by omega) j1 j2]
      have hcx : ∀ j, 1 ≤ j → j < 13 → (hcd I1 J (p x) j = true ↔ (if j = x then true else t j) = false ∧ psl w (uv J) (vv J) (p x) j < gv J j) := fun j j1 j2 => by
        rw [hcd_iff (i165 j j2), hsx j j1 j2]
      dsimp only
      generalize hI2 : rowU I1 164 1 13 (fun k => if hcd I1 J (p x) k = true then nI x else I1 164 k) = I2
      generalize hJ2 : rowU J 163 1 13 (fun k => if hcd I1 J (p x) k = true then hsl J (p x) k else J 163 k) = J2
      have i2 : ∀ a k, a ≠ 164 → I2 a k = I1 a k := fun a k h => by rw [← hI2]; exact rowU_ne h
      have j2 : ∀ a k, a ≠ 163 → J2 a k = J a k := fun a k h => by rw [← hJ2]; exact rowU_ne h
      have i265 : ∀ j, j < 13 → I2 165 j = mb (if j = x then true else t j) := fun j hj => (i2 165 j (by decide)).trans (i165 j hj)
      have hg1 : ∀ j, 1 ≤ j → j < 13 → gv J2 j = if (if j = x then true else t j) = false ∧ psl w (uv J) (vv J) (p x) j < gv J j then psl w (uv J) (vv J) (p x) j else gv J j := fun j j1 j3 => by
        have e : J2 163 j = if hcd I1 J (p x) j = true then hsl J (p x) j else J 163 j := by rw [← hJ2]; exact rowU_in j1 j3
        rw [show gv J2 j = (J2 163 j).toInt from rfl, e]
        by_cases hc : hcd I1 J (p x) j = true
        · rw [if_pos hc, if_pos ((hcx j j1 j3).mp hc), hsx j j1 j3]
        · rw [if_neg hc, if_neg (fun z => hc ((hcx j j1 j3).mpr z))]
          rfl
      obtain ⟨x', y1, y2, y3, y4⟩ := h_nearest hR I2 J2
      obtain ⟨jf, z1, z2, z3⟩ := p_free0 a2 a3 hr
      have tjf : (if jf = x then true else t jf) = false := by
        have h1 : jf ≠ x := fun e => hx (by rw [← e]; exact z3)
        have h2 : ¬ t jf = true := fun e => b2 jf z2 e z3
        simp [h1]
        simpa using h2
      have hx1 : 1 ≤ x' := by
        by_cases h : x' = 0
        · have := y3 h jf z1 z2
          rw [i265 jf z2, tjf] at this
          exact absurd rfl this
        · omega
      obtain ⟨y5, y6⟩ := y4 hx1
      rw [i265 x' y1, mb_0] at y5
      have hmin : ∀ k, 1 ≤ k → k < 13 → (if k = x then true else t k) = false → gv J2 x' ≤ gv J2 k := fun k k1 k2 k3 => Int64.le_iff_toInt_le.mp (y6 k k1 k2 (by rw [i265 k k2, mb_0]; exact k3))
      rw [y2, Option.bind_some, r7, Option.bind_some, if_pos (mIx_of k163 y1 (by decide)), nI_c (show x' < 2 ^ 31 by omega), nI_s1]
      have hinj : ∀ c c', c < 13 → c' < 13 → (if c = x then true else t c) = true → (if c' = x then true else t c') = true → p c = p c' → c = c' := fun c c' h1 h2 h3 h4 h5 => by
        have q1 : p c ≠ 0 := by
          by_cases h : c = x
          · rw [h]; exact hx
          · simp only [h, if_false] at h3; exact b2 c h1 h3
        by_cases hc : c = 0
        · by_cases hc' : c' = 0
          · omega
          · have := a2 c' (by omega) h2
            rw [hc, a1] at h5
            omega
        · by_cases hc' : c' = 0
          · have := a2 c (by omega) h1
            rw [hc', a1] at h5
            omega
          · exact a3 c c' (by omega) h1 (by omega) h2 q1 h5
      have ple : ∀ c, c < 13 → p c < 13 := fun c hc => by
        by_cases h : c = 0
        · rw [h, a1]; omega
        · have := a2 c (by omega) hc; omega
      obtain ⟨J3, w1, s1, s2, s3, s4, s5⟩ := h_shift hR I2 J2 (fun j => if j = x then true else t j) p (J2 163 x') (fun c hc _ => ⟨by rw [i2 160 c (by decide), i160 c]; exact m1 c hc, ple c hc⟩) i265 hinj
      rw [w1, Option.bind_some]
      -- the shift's amount
      have dd : 0 ≤ gv J2 x' ∧ gv J2 x' ≤ 1000000000000000000 := by
        have k1 := hg1 x' hx1 y1
        have k2 := f1 (p x) x' (by omega) (by omega) hx1 y1
        have k3 : t x' = false := by
          by_cases h : x' = x
          · simp [h] at y5
          · simpa [h] using y5
        have k4 := d3 x' hx1 y1 k3
        have k5 : psl w (uv J) (vv J) (p x) x' ≤ 1000000000000000000 := by
          have q1 := (hw (p x) x' (by omega) (by omega) hx1 y1).1
          have q2 := (bu (p x) (by omega) (by omega)).1
          have q3 := (bv x' hx1 y1).1
          simp only [psl]
          omega
        by_cases hc : (if x' = x then true else t x') = false ∧ psl w (uv J) (vv J) (p x) x' < gv J x'
        · rw [if_pos hc] at k1; omega
        · rw [if_neg hc] at k1
          have : ¬ psl w (uv J) (vv J) (p x) x' < gv J x' := fun z => hc ⟨y5, z⟩
          omega
      have hu1 : ∀ j, j < 13 → (if j = x then true else t j) = true → uv J3 (p j) = uv J (p j) + gv J2 x' := fun j h1 h2 => by
        have k1 : J3 161 (p j) = J2 161 (p j) + J2 163 x' := s4 j h1 h2
        have k2 := bu (p j) (by
          by_cases h : j = x
          · rw [h]; omega
          · simp only [h, if_false] at h2; have := b2 j h1 h2; omega) (by
          by_cases h : j = 0
          · rw [h, a1]; omega
          · have := a2 j (by omega) h1; omega)
        unfold uv at k2 ⊢
        unfold gv at dd ⊢
        rw [k1, j2 161 _ (by decide), fb_addL (by omega) (by omega)]
      have hu2 : ∀ i, (∀ j, j < 13 → (if j = x then true else t j) = true → p j ≠ i) → uv J3 i = uv J i := fun i h => by
        unfold uv
        rw [s5 i h, j2 161 _ (by decide)]
      have hv3 : ∀ j, 1 ≤ j → j < 13 → vv J3 j = if (if j = x then true else t j) = true then vv J j - gv J2 x' else vv J j := fun j h1 h2 => by
        have k1 := s3 j
        have k2 := bv j h1 h2
        unfold vv at k2 ⊢
        unfold gv at dd ⊢
        rw [k1]
        by_cases hc : (if j = x then true else t j) = true
        · rw [if_pos ⟨h2, hc⟩, if_pos hc, j2 162 _ (by decide), fb_subL (by omega) (by omega)]
        · rw [if_neg (fun z => hc z.2), if_neg hc, j2 162 _ (by decide)]
      have hg3 : ∀ j, 1 ≤ j → j < 13 → gv J3 j = if (if j = x then true else t j) = false then gv J2 j - gv J2 x' else gv J2 j := fun j h1 h2 => by
        have k1 := s2 j
        by_cases hc : (if j = x then true else t j) = false
        · have k2 := hg1 j h1 h2
          have k3 := f1 (p x) j (by omega) (by omega) h1 h2
          have k4 : t j = false := by
            by_cases h : j = x
            · simp [h] at hc
            · simpa [h] using hc
          have k5 := d3 j h1 h2 k4
          have k6 := hmin j h1 h2 hc
          have k7 : gv J2 j ≤ 1000000000000000000 := by
            have q1 := (hw (p x) j (by omega) (by omega) h1 h2).1
            have q2 := (bu (p x) (by omega) (by omega)).1
            have q3 := (bv j h1 h2).1
            have q4 : psl w (uv J) (vv J) (p x) j ≤ 1000000000000000000 := by
              simp only [psl]
              omega
            by_cases hd : psl w (uv J) (vv J) (p x) j < gv J j
            · rw [if_pos ⟨hc, hd⟩] at k2; omega
            · rw [if_neg (fun z => hd z.2)] at k2; omega
          unfold gv at dd k6 k7 ⊢
          rw [k1, if_pos ⟨h2, hc⟩, if_pos hc, fb_subL (by omega) (by omega)]
        · unfold gv
          rw [k1, if_neg (fun z => hc z.2), if_neg hc]
      have hq1 : ∀ j, 1 ≤ j → j < 13 → (fun j => if (if j = x then true else t j) = false ∧ psl w (uv J) (vv J) (p x) j < gv J j then x else q j) j = if (if j = x then true else t j) = false ∧ psl w (uv J) (vv J) (p x) j < gv J j then x else q j := fun _ _ _ => rfl
      have hV' := p_iter hV hx hg1 hq1 hx1 y1 y5 hmin hu1 hu2 hv3 hg3
      have hm' : mI3 I2 p (fun j => if j = x then true else t j) (fun j => if (if j = x then true else t j) = false ∧ psl w (uv J) (vv J) (p x) j < gv J j then x else q j) := by
        refine ⟨fun j hj => by rw [i2 160 j (by decide), i160 j]; exact m1 j hj, i265, fun j h1 h2 => ?_⟩
        have e : I2 164 j = if hcd I1 J (p x) j = true then nI x else I1 164 j := by rw [← hI2]; exact rowU_in h1 h2
        rw [e]
        by_cases hc : hcd I1 J (p x) j = true
        · dsimp only
          rw [if_pos hc, if_pos ((hcx j h1 h2).mp hc)]
        · dsimp only
          rw [if_neg hc, i164 j, m3 j h1 h2, if_neg (fun z => hc ((hcx j h1 h2).mpr z))]
      obtain ⟨x9, I9, J9, sq, t9, q9, rk9, o1, o2, o3, o4, o5, o6, o7, o8⟩ := ih (s + 1) x' I2 J3 p _ _ _ hm' (fun i j h1 h2 h3 h4 => by
        unfold wv
        rw [s1 _ _ (by omega) (by omega) (by omega), j2 _ _ (by omega)]
        exact hwj i j h1 h2 h3 h4) hV' (by omega)
      refine ⟨x9, I9, J9, sq, t9, q9, rk9, o1, o2, o3, o4, o5, o6, fun a k h1 h2 => ?_, fun a k h1 h2 h3 => ?_⟩
      · rw [o7 a k h1 h2, i2 a k h1, ← hI1, mup_ne _ _ (fun z => h2 z.1)]
      · rw [o8 a k h1 h2 h3, s1 a k h1 h2 h3, j2 a k h3]
