/-! ===== names, doubts, counts ===== -/
theorem i32_sub_add (a b c : Int32) : a - (b + c) = a - b - c := by
  rw [Int32.sub_eq_add_neg, Int32.sub_eq_add_neg, Int32.sub_eq_add_neg, Int32.neg_add, Int32.sub_eq_add_neg, Int32.add_assoc]
def dbt (C : Nat → Nat → Nat) (ld nm : Nat → Nat) (nf b : Nat) : Bool := decide (nm b ≠ 0) && decide (barC (bC C ld b nf) (C (nm b - 1)) ≠ 0)
theorem x_inDoubt {nl nf : Nat} {C : Nat → Nat → Nat} {ld nm lw : Nat → Nat} {L L' : Nat} {I : mI} {R : mR} (hCI : CI C nl nf) (hBI : BI ld nm nl nf) (hX : XA I R nl nf C ld nm lw L L') (J : mJ) {b : Nat} (hb : b < 12) : ∃ I1, f_X8_inDoubt kX 0 (nI b) I J R = some (dbt C ld nm nf b, I1) ∧ sameX I I1 := by
  have h0 := hX
  obtain ⟨x1, x2, x3, x4, x5⟩ := h0
  obtain ⟨r0, r1, r6, -, r4, -, rn, -, -⟩ := x1.b
  have hn := x2.2.2
  have bn := (hBI b hb).2.2.2.1
  have hd : f_X8_inDoubt kX 0 (nI b) I J R = (f_X2_find kX 1 (nmI (nm b)) I J R).bind fun z11 => mON z11 (some (false, I)) (fun x13 => (f_X8_barOf kX 0 (nI b) x13 I J R).bind fun z14 => if z14.1 = 0 then some (false, z14.2) else some (true, z14.2)) := by
    simp only [f_X8_inDoubt, q0, if_true, r0, r1, Option.bind_some, q63, rn, q1]
    rw [if_pos (mx b q127 hb (by decide)), nI_c (by omega), (x4 b hb).2]
  rw [hd]
  unfold dbt
  by_cases z : nm b = 0
  · rw [z, nmI_0, x_find_no x1 x2 (Or.inl (by decide)), Option.bind_some, mON_n]
    exact ⟨I, by simp, sameX.rfl⟩
  · obtain ⟨I1, o1, o2⟩ := x_barOf hCI hBI hX J hb (show nm b - 1 < 12 by omega)
    rw [nmI_s z, x_find_yes x1 x2 (show nm b - 1 < nl by omega), Option.bind_some, mON_s, o1, Option.bind_some]
    dsimp only
    have := barC_le (bC C ld b nf) (C (nm b - 1))
    refine ⟨I1, ?_, o2⟩
    by_cases y : barC (bC C ld b nf) (C (nm b - 1)) = 0
    · rw [if_pos ((nI_z (by omega)).mpr y)]; simp [y]
    · rw [if_neg (fun q => y ((nI_z (by omega)).mp q))]; simp [y, z]
theorem m_isDoubted {nl nf : Nat} {C : Nat → Nat → Nat} {ld nm lw : Nat → Nat} {I : mI} (hCI : CI C nl nf) (hBI : BI ld nm nl nf) (hM : MA I nl nf C ld nm lw) (J : mJ) {b : Nat} (hb : b < nf) : f_X9_isDoubted kM 0 (nI b) I J rM = some (dbt C ld nm nf b) := by
  obtain ⟨m1, m2, m3, m4⟩ := hM
  have hn := m1.2.2
  have bn := (hBI b (by omega)).2.2.2.1
  rw [f_X9_isDoubted, if_pos km0, rq6, Option.bind_some, if_pos (mx b km7 (by omega) (by decide)), nI_c (show b < 2 ^ 31 by omega), (m3 b hb).2]
  unfold dbt
  by_cases z : nm b = 0
  · rw [if_pos ((nmI_iff (by omega)).mpr z)]; simp [z]
  · rw [if_neg (fun q => z ((nmI_iff (by omega)).mp q)), nmI_s z, m_shutOf hCI hBI hb (show nm b - 1 < nl by omega) I J m1 m2 m3, Option.bind_some]
    have := barC_le (bC C ld b nf) (C (nm b - 1))
    by_cases y : barC (bC C ld b nf) (C (nm b - 1)) = 0
    · rw [if_pos ((nI_z (by omega)).mpr y)]; simp [y]
    · rw [if_neg (fun q => y ((nI_z (by omega)).mp q))]; simp [y, z]
theorem s_named {I : mI} {R : mR} {I' : mI} (h : Sim I R I') (J J' : mJ) (a1 a2 : Int32) : ∃ v I1, f_X8_named kX 0 a1 a2 I J R = some (v, I1) ∧ f_X9_named kM 0 a1 a2 I' J' rM = some v ∧ Sim I1 R I' := by
  obtain ⟨nl, nf, C, ld, nm, lw, ns, sb, sm, sp, tl, tb, L, L', h⟩ := h
  have h0 := h
  obtain ⟨⟨g1, g2, g3, g4⟩, hX, h3, h4, hM, h6, h7, h8⟩ := h0
  obtain ⟨x1, x2, x3, x4, x5⟩ := hX
  obtain ⟨m1, m2, m3, m4⟩ := hM
  obtain ⟨r0, r1, -, -, r4, -, rn, -, -⟩ := x1.b
  have hn := x2.2.2
  rcases body_case h J J' a1 with ⟨j, j1, e1, j2, j3, o1, o2, o3, o4⟩ | ⟨o1, o2⟩
  · have n1 := nI_nm1 (show ld j < 2 ^ 31 by omega)
    by_cases y0 : a2 = 0
    · refine ⟨nmI (nm (ld j)), I, ?_, ?_, h.s⟩
      · subst y0
        simp only [f_X8_named, q0, if_true, r1, Option.bind_some, q63, o1, n1, if_false, x_win, show (!decide ((0 : Int32) < 0) && !decide ((1 : Int32) < 0)) = true from rfl, imt, rn]
        rw [if_pos (mx _ q127 (show ld j < 12 by omega) (by decide)), nI_c (show ld j < 2 ^ 31 by omega), (x4 _ (by omega)).2]
      · rw [f_X9_named, if_pos km0, o2, Option.bind_some, imt, if_pos y0, rq6, Option.bind_some, rq5, Option.bind_some, if_pos o3, o4, if_pos (mx _ km7 (show ld j < 12 by omega) (by decide)), nI_c (show ld j < 2 ^ 31 by omega), (m3 _ j2).2]
    · by_cases y1 : a2 = 1
      · obtain ⟨I1, p1, p2⟩ := x_inDoubt g1 g2 h.2.1 J (show ld j < 12 by omega)
        refine ⟨mb (dbt C ld nm nf (ld j)), I1, ?_, ?_, (h.same p2 sameM.rfl).s⟩
        · subst y1
          simp only [f_X8_named, q0, if_true, r1, Option.bind_some, q63, o1, n1, if_false, x_win, show (!decide ((1 : Int32) < 0) && !decide ((1 : Int32) < 1)) = true from rfl, imt, show ¬ (1 : Int32) = 0 by decide, p1]
          cases dbt C ld nm nf (ld j)
          · rw [imf]; rfl
          · rw [imt]; rfl
        · rw [f_X9_named, if_pos km0, o2, Option.bind_some, imt, if_neg y0, if_pos y1, rq5, Option.bind_some, if_pos o3, o4, m_isDoubted g1 g2 h.2.2.2.2.1 J' j2, Option.bind_some, m_one, Option.bind_some]
      · have z : (!decide (a2 < 0) && !decide (1 < a2)) = false := by
          by_cases z : (!decide (a2 < 0) && !decide (1 < a2)) = true
          · obtain ⟨v, v1, v2, rfl⟩ := inr (lo := 0) (hi := 1) (by decide) (by decide) z
            rcases (show v = 0 ∨ v = 1 by omega) with rfl | rfl
            · exact absurd rfl y0
            · exact absurd rfl y1
          · simpa using z
        refine ⟨-1, I, ?_, ?_, h.s⟩
        · simp only [f_X8_named, q0, if_true, r1, Option.bind_some, q63, o1, n1, if_false, x_win, z, imf]
        · rw [f_X9_named, if_pos km0, o2, Option.bind_some, imt, if_neg y0, if_neg y1]
  · refine ⟨-1, I, ?_, ?_, h.s⟩
    · simp only [f_X8_named, q0, if_true, r1, Option.bind_some, q63, o1]
    · simp only [f_X9_named, km0, if_true, o2, Option.bind_some, imf]
theorem s_unname {I : mI} {R : mR} {I' : mI} (h : Sim I R I') (J J' : mJ) (a1 : Int32) : ∃ v I1 I1', f_X8_unname kX 0 a1 I J R = some (v, I1) ∧ f_X9_unname kM 0 a1 I' J' rM = some (v, I1') ∧ Sim I1 R I1' := by
  obtain ⟨nl, nf, C, ld, nm, lw, ns, sb, sm, sp, tl, tb, L, L', h⟩ := h
  have h0 := h
  obtain ⟨⟨g1, g2, g3, g4⟩, hX, h3, h4, hM, h6, h7, h8⟩ := h0
  obtain ⟨x1, x2, x3, x4, x5⟩ := hX
  obtain ⟨r0, r1, -, -, r4, -, rn, -, -⟩ := x1.b
  have hn := x2.2.2
  rcases body_case h J J' a1 with ⟨j, j1, e1, j2, j3, o1, o2, o3, o4⟩ | ⟨o1, o2⟩
  · have n1 := nI_nm1 (show ld j < 2 ^ 31 by omega)
    obtain ⟨I1, p1, p2⟩ := x_inDoubt g1 g2 h.2.1 J (show ld j < 12 by omega)
    have p3 := m_isDoubted g1 g2 h.2.2.2.2.1 J' j2
    have hs := h.same p2 sameM.rfl
    by_cases z : dbt C ld nm nf (ld j) = true
    · rw [z] at p1 p3
      refine ⟨true, _, _, ?_, ?_, (hs.name (b := ld j) (v := 0) j2 j3 (Nat.zero_le _)).s⟩
      · simp only [f_X8_unname, q0, if_true, r1, Option.bind_some, q63, o1, n1, if_false, p1, imt, rn]
        rw [if_pos (mx _ q127 (show ld j < 12 by omega) (by decide)), nI_c (show ld j < 2 ^ 31 by omega), nmI_0]
      · rw [f_X9_unname, if_pos km0, o2, Option.bind_some, imt, rq5, Option.bind_some, if_pos o3, o4, p3, Option.bind_some, imt, rq6, Option.bind_some, if_pos (mx _ km7 (show ld j < 12 by omega) (by decide)), nI_c (show ld j < 2 ^ 31 by omega), Option.bind_some, nmI_0]
    · have z : dbt C ld nm nf (ld j) = false := by simpa using z
      rw [z] at p1 p3
      refine ⟨false, I1, I', ?_, ?_, hs.s⟩
      · simp only [f_X8_unname, q0, if_true, r1, Option.bind_some, q63, o1, n1, if_false, p1, imf]
      · rw [f_X9_unname, if_pos km0, o2, Option.bind_some, imt, rq5, Option.bind_some, if_pos o3, o4, p3, Option.bind_some, imf]
  · refine ⟨false, I, I', ?_, ?_, h.s⟩
    · simp only [f_X8_unname, q0, if_true, r1, Option.bind_some, q63, o1]
    · simp only [f_X9_unname, km0, if_true, o2, Option.bind_some, imf]
theorem x_howMany {R : mR} {L L' : Nat} (hR : XR R L L') {ld nm : Nat → Nat} {nl nf : Nat} (hBI : BI ld nm nl nf) (I : mI) (J : mJ) (hH : XH I nl nf) (hB : XB I ld nm) : f_X0_howMany kX 63 I J R = some (nI (fb_ct (fun f => decide (ld f = f)) nf)) := by
  obtain ⟨-, -, -, -, r4, r5, -, r7, -⟩ := hR.b
  have hn := hH.2.2
  have Lp : ∀ (N d j : Nat), j + d = nf → d < N → f_X0_howMany_L4 kX 63 I J R N (nI (fb_ct (fun f => decide (ld f = f)) j)) (nI j) = some (nI (fb_ct (fun f => decide (ld f = f)) nf)) := by
    intro N
    induction N with
    | zero => intro d j e1 e2; omega
    | succ N ih =>
      intro d j e1 e2
      rw [f_X0_howMany_L4, if_pos q63, r4, Option.bind_some, if_pos q64, hH.2.1]
      by_cases hd : d = 0
      · have : j = nf := by omega
        subst this
        rw [if_pos (nI_le (Nat.le_refl _) (by omega))]
      · have hj : j < nf := by omega
        have ih' := ih (d - 1) (j + 1) (by omega) (by omega)
        rw [fb_ct_succ] at ih'
        rw [if_neg (nI_ge hj (by omega)), x_leads hR hBI (by omega) I J hH hB, Option.bind_some, nI_s1, nI_s1]
        by_cases hl : ld j = j
        · rw [decide_eq_true (show j < nf ∧ ld j = j from ⟨hj, hl⟩), imt]
          simp only [hl, decide_true, if_true] at ih'
          exact ih'
        · rw [decide_eq_false (show ¬ (j < nf ∧ ld j = j) from fun z => hl z.2), imf]
          simp only [hl, decide_false, Bool.false_eq_true, if_false, Nat.add_zero] at ih'
          exact ih'
  rw [f_X0_howMany, show f_X0_howMany_L4 kX 63 I J R 8192 0 0 = _ from Lp 8192 nf 0 (by omega) (by omega), Option.bind_some]
theorem m_bodies {ld nm : Nat → Nat} {nl nf : Nat} (hBI : BI ld nm nl nf) (I : mI) (J : mJ) (hH : MH I nl nf) (hB : MB I ld nm nf) : f_X9_bodies kM 0 I J rM = some (nI (fb_ct (fun f => decide (ld f = f)) nf)) := by
  obtain ⟨h1, h2, h3, h4⟩ := hH
  have Lp : ∀ (N d j : Nat), j + d = nf → d < N → f_X9_bodies_L4 kM 0 I J rM N (nI (fb_ct (fun f => decide (ld f = f)) j)) (nI j) = some (nI (fb_ct (fun f => decide (ld f = f)) nf)) := by
    intro N
    induction N with
    | zero => intro d j e1 e2; omega
    | succ N ih =>
      intro d j e1 e2
      rw [f_X9_bodies_L4, if_pos km0, rq0, Option.bind_some, if_pos ix11, cl1, h2]
      by_cases hd : d = 0
      · have : j = nf := by omega
        subst this
        rw [if_pos (nI_le (Nat.le_refl _) (by omega))]
      · have hj : j < nf := by omega
        have hld := (hBI j (by omega)).1
        have ih' := ih (d - 1) (j + 1) (by omega) (by omega)
        rw [fb_ct_succ] at ih'
        rw [if_neg (nI_ge hj (by omega)), rq5, Option.bind_some, if_pos (mx j km6 (by omega) (by decide)), nI_c (show j < 2 ^ 31 by omega), (hB j hj).1, nI_s1]
        by_cases hl : ld j = j
        · rw [if_pos (by rw [hl]), m_one, Option.bind_some, mb_t, nI_s1]
          simp only [hl, decide_true, if_true] at ih'
          exact ih'
        · rw [if_neg (fun z => hl ((nI_eq (by omega) (by omega)).mp z)), m_one, Option.bind_some, mb_f, Int32.add_zero]
          simp only [hl, decide_false, Bool.false_eq_true, if_false, Nat.add_zero] at ih'
          exact ih'
  rw [f_X9_bodies, show f_X9_bodies_L4 kM 0 I J rM 8192 0 0 = _ from Lp 8192 nf 0 (by omega) (by omega), Option.bind_some]
theorem x_howManyNamed {R : mR} {L L' : Nat} (hR : XR R L L') {ld nm : Nat → Nat} {nl nf : Nat} (hBI : BI ld nm nl nf) (hn : nl ≤ 12) (I : mI) (J : mJ) (hB : XB I ld nm) : f_X0_howManyNamed kX 63 I J R = some (nI (fb_ct (fun f => decide (nm f ≠ 0)) 12)) := by
  obtain ⟨-, -, -, -, r4, r5, rn, r7, -⟩ := hR.b
  have Lp : ∀ (N d j : Nat), j + d = 12 → d < N → f_X0_howManyNamed_L4 kX 63 I J R N (nI (fb_ct (fun f => decide (nm f ≠ 0)) j)) (nI j) = some (nI (fb_ct (fun f => decide (nm f ≠ 0)) 12)) := by
    intro N
    induction N with
    | zero => intro d j e1 e2; omega
    | succ N ih =>
      intro d j e1 e2
      rw [f_X0_howManyNamed_L4]
      by_cases hd : d = 0
      · have : j = 12 := by omega
        subst this
        rw [if_pos ge12']
      · have hj : j < 12 := by omega
        have bn := (hBI j hj).2.2.2.1
        have ih' := ih (d - 1) (j + 1) (by omega) (by omega)
        rw [fb_ct_succ] at ih'
        rw [if_neg (ge12 hj), if_pos q63, rn, Option.bind_some, if_pos (mx j q127 hj (by decide)), nI_c (show j < 2 ^ 31 by omega), (hB j hj).2, nI_s1, nI_s1]
        by_cases hl : nm j = 0
        · rw [if_pos ((nmI_iff (by omega)).mpr hl)]
          simp only [hl, ne_eq, not_true, decide_false, Bool.false_eq_true, if_false, Nat.add_zero] at ih'
          exact ih'
        · rw [if_neg (fun z => hl ((nmI_iff (by omega)).mp z))]
          simp only [hl, ne_eq, not_false_eq_true, decide_true, if_true] at ih'
          exact ih'
  rw [f_X0_howManyNamed, show f_X0_howManyNamed_L4 kX 63 I J R 8192 0 0 = _ from Lp 8192 12 0 (by omega) (by omega), Option.bind_some]
theorem x_howManyInDoubt {nl nf : Nat} {C : Nat → Nat → Nat} {ld nm lw : Nat → Nat} {L L' : Nat} {I : mI} {R : mR} (hCI : CI C nl nf) (hBI : BI ld nm nl nf) (hX : XA I R nl nf C ld nm lw L L') (J : mJ) : ∃ I1, f_X8_howManyInDoubt kX 0 I J R = some (nI (fb_ct (fun f => decide (ld f = f) && dbt C ld nm nf f) nf), I1) ∧ sameX I I1 := by
  obtain ⟨x1, x2, x3, x4, x5⟩ := hX
  obtain ⟨r0, r1, -, -, r4, r5, rn, r7, -⟩ := x1.b
  have hn := x2.2.2
  have Lp : ∀ (N d j : Nat) (I2 : mI), j + d = nf → d < N → sameX I I2 → ∃ I1, f_X8_howManyInDoubt_L4 kX 0 J R N (nI (fb_ct (fun f => decide (ld f = f) && dbt C ld nm nf f) j)) (nI j) I2 = some (nI (fb_ct (fun f => decide (ld f = f) && dbt C ld nm nf f) nf), I1) ∧ sameX I I1 := by
    intro N
    induction N with
    | zero => intro d j I2 e1 e2; omega
    | succ N ih =>
      intro d j I2 e1 e2 e3
      rw [f_X8_howManyInDoubt_L4, if_pos q0, r1, Option.bind_some, if_pos q63, r4, Option.bind_some, if_pos q64, (x2.same e3).2.1]
      by_cases hd : d = 0
      · have : j = nf := by omega
        subst this
        exact ⟨I2, by rw [if_pos (nI_le (Nat.le_refl _) (by omega))], e3⟩
      · have hj : j < nf := by omega
        rw [if_neg (nI_ge hj (by omega)), x_leads x1 hBI (by omega) I2 J (x2.same e3) (x4.same e3), Option.bind_some, nI_s1, nI_s1]
        by_cases hl : ld j = j
        · rw [decide_eq_true (show j < nf ∧ ld j = j from ⟨hj, hl⟩), imt]
          obtain ⟨I3, o1, o2⟩ := x_inDoubt hCI hBI (I := I2) ⟨x1, x2.same e3, x3.same e3, x4.same e3, x5.same x1.L.1 e3⟩ J (show j < 12 by omega)
          have ih' := ih (d - 1) (j + 1) I3 (by omega) (by omega) (e3.trans o2)
          rw [fb_ct_succ] at ih'
          rw [o1, Option.bind_some]
          dsimp only
          cases hq : dbt C ld nm nf j with
          | true =>
            rw [imt]
            simp only [hl, hq, decide_true, Bool.and_self, if_true] at ih'
            exact ih'
          | false =>
            rw [imf]
            simp only [hl, hq, decide_true, Bool.and_false, Bool.false_eq_true, if_false, Nat.add_zero] at ih'
            exact ih'
        · rw [decide_eq_false (show ¬ (j < nf ∧ ld j = j) from fun z => hl z.2), imf]
          have ih' := ih (d - 1) (j + 1) I2 (by omega) (by omega) e3
          rw [fb_ct_succ] at ih'
          simp only [hl, decide_false, Bool.false_and, Bool.false_eq_true, if_false, Nat.add_zero] at ih'
          exact ih'
  obtain ⟨I1, o1, o2⟩ := Lp 8192 nf 0 I (by omega) (by omega) sameX.rfl
  exact ⟨I1, by rw [f_X8_howManyInDoubt, show f_X8_howManyInDoubt_L4 kX 0 J R 8192 0 0 I = _ from o1, Option.bind_some], o2⟩
theorem m_names {nl nf : Nat} {C : Nat → Nat → Nat} {ld nm lw : Nat → Nat} {I : mI} (hCI : CI C nl nf) (hBI : BI ld nm nl nf) (hM : MA I nl nf C ld nm lw) (J : mJ) (g : Bool) : f_X9_names kM 0 g I J rM = some (nI (fb_ct (fun f => decide (ld f = f) && (decide (nm f ≠ 0) && (!g || dbt C ld nm nf f))) nf)) := by
  have hM0 := hM
  obtain ⟨m1, m2, m3, m4⟩ := hM0
  obtain ⟨h1, h2, h3, h4⟩ := m1
  have Lp : ∀ (N d j : Nat), j + d = nf → d < N → f_X9_names_L4 kM 0 g I J rM N (nI (fb_ct (fun f => decide (ld f = f) && (decide (nm f ≠ 0) && (!g || dbt C ld nm nf f))) j)) (nI j) = some (nI (fb_ct (fun f => decide (ld f = f) && (decide (nm f ≠ 0) && (!g || dbt C ld nm nf f))) nf)) := by
    intro N
    induction N with
    | zero => intro d j e1 e2; omega
    | succ N ih =>
      intro d j e1 e2
      rw [f_X9_names_L4, if_pos km0, rq0, Option.bind_some, if_pos ix11, cl1, h2]
      by_cases hd : d = 0
      · have : j = nf := by omega
        subst this
        rw [if_pos (nI_le (Nat.le_refl _) (by omega))]
      · have hj : j < nf := by omega
        have hld := (hBI j (by omega)).1
        have bn := (hBI j (by omega)).2.2.2.1
        have ih' := ih (d - 1) (j + 1) (by omega) (by omega)
        rw [fb_ct_succ] at ih'
        rw [if_neg (nI_ge hj (by omega)), rq5, Option.bind_some, if_pos (mx j km6 (by omega) (by decide)), nI_c (show j < 2 ^ 31 by omega), (m3 j hj).1, nI_s1]
        by_cases hl : ld j = j
        · rw [if_pos (by rw [hl]), rq6, Option.bind_some, if_pos (mx j km7 (by omega) (by decide)), (m3 j hj).2]
          by_cases hz : nm j = 0
          · rw [if_pos ((nmI_iff (by omega)).mpr hz), m_one, Option.bind_some, mb_f, Int32.add_zero]
            simp only [hl, hz, decide_true, ne_eq, not_true, decide_false, Bool.false_and, Bool.and_false, Bool.false_eq_true, if_false, Nat.add_zero] at ih'
            exact ih'
          · rw [if_neg (fun z => hz ((nmI_iff (by omega)).mp z))]
            cases g with
            | false =>
              rw [imf, m_one, Option.bind_some, mb_t, nI_s1]
              simp only [hl, hz, decide_true, ne_eq, not_false_eq_true, Bool.not_false, Bool.true_or, Bool.and_self, if_true] at ih'
              exact ih'
            | true =>
              rw [imt, m_isDoubted hCI hBI hM J hj, Option.bind_some]
              cases hq : dbt C ld nm nf j with
              | true =>
                rw [imt, m_one, Option.bind_some, mb_t, nI_s1]
                simp only [hl, hz, hq, decide_true, ne_eq, not_false_eq_true, Bool.not_true, Bool.false_or, Bool.and_self, if_true] at ih'
                exact ih'
              | false =>
                rw [imf, m_one, Option.bind_some, mb_f, Int32.add_zero]
                simp only [hl, hz, hq, decide_true, ne_eq, not_false_eq_true, Bool.not_true, Bool.false_or, Bool.and_false, Bool.false_eq_true, if_false, Nat.add_zero] at ih'
                exact ih'
        · rw [if_neg (fun z => hl ((nI_eq (by omega) (by omega)).mp z)), m_one, Option.bind_some, mb_f, Int32.add_zero]
          simp only [hl, decide_false, Bool.false_and, Bool.false_eq_true, if_false, Nat.add_zero] at ih'
          exact ih'
  rw [f_X9_names, show f_X9_names_L4 kM 0 g I J rM 8192 0 0 = _ from Lp 8192 nf 0 (by omega) (by omega), Option.bind_some]
theorem ct_cut {p q : Nat → Bool} {n : Nat} (hn : n ≤ 12) (h1 : ∀ k, k < n → p k = q k) (h2 : ∀ k, n ≤ k → k < 12 → p k = false) : fb_ct p 12 = fb_ct q n := by
  have s := fb_ct_split p n (12 - n)
  rw [show n + (12 - n) = 12 by omega] at s
  rw [s, fb_ct_cong h1, show fb_ct (fun k => p (n + k)) (12 - n) = 0 from fb_ct_zero.mpr (fun k hk => h2 (n + k) (by omega) (by omega)), Nat.add_zero]
theorem names_f {ld nm : Nat → Nat} {nl nf : Nat} (hBI : BI ld nm nl nf) (hn : nf ≤ 12) {C : Nat → Nat → Nat} : fb_ct (fun f => decide (ld f = f) && (decide (nm f ≠ 0) && (!false || dbt C ld nm nf f))) nf = fb_ct (fun f => decide (nm f ≠ 0)) 12 := by
  symm
  apply ct_cut hn
  · intro k hk
    obtain ⟨-, -, -, -, b5⟩ := hBI k (by omega)
    by_cases z : nm k = 0
    · simp [z]
    · simp [z, b5 z]
  · intro k k1 k2
    have := ((hBI k k2).2.2.1 k1).2
    simp [this]
theorem x_unpaired {R : mR} {L L' : Nat} (hR : XR R L L') {w : Nat → Nat} (I : mI) (J : mJ) (hw : ∀ b, b < 12 → I 145 b = nmI (w b) ∧ w b ≤ 12) (a : Int32) : f_X8_howManyUnpaired_L14 kX 0 I J R 8192 a 0 = some (a - nI (fb_ct (fun f => decide (w f ≠ 0)) 12)) := by
  have p3 := hR.p3
  obtain ⟨-, pr1, -⟩ := hR.p
  have Lp : ∀ (N d j : Nat), j + d = 12 → d < N → f_X8_howManyUnpaired_L14 kX 0 I J R N (a - nI (fb_ct (fun f => decide (w f ≠ 0)) j)) (nI j) = some (a - nI (fb_ct (fun f => decide (w f ≠ 0)) 12)) := by
    intro N
    induction N with
    | zero => intro d j e1 e2; omega
    | succ N ih =>
      intro d j e1 e2
      rw [f_X8_howManyUnpaired_L14]
      by_cases hd : d = 0
      · have : j = 12 := by omega
        subst this
        rw [if_pos ge12']
      · have hj : j < 12 := by omega
        have ih' := ih (d - 1) (j + 1) (by omega) (by omega)
        obtain ⟨w1, w2⟩ := hw j hj
        rw [fb_ct_succ] at ih'
        rw [if_neg (ge12 hj), if_pos q0, p3, Option.bind_some, if_pos k131, pr1, Option.bind_some, if_pos (mx j k145 hj (by decide)), nI_c (show j < 2 ^ 31 by omega), w1, nI_s1]
        by_cases hl : w j = 0
        · rw [if_pos ((nmI_iff (by omega)).mpr hl)]
          simp only [hl, ne_eq, not_true, decide_false, Bool.false_eq_true, if_false, Nat.add_zero] at ih'
          exact ih'
        · rw [if_neg (fun z => hl ((nmI_iff (by omega)).mp z))]
          simp only [hl, ne_eq, not_false_eq_true, decide_true, if_true] at ih'
          rw [← nI_s1, i32_sub_add, ← sub1] at ih'
          exact ih'
  have q := Lp 8192 12 0 rfl (by decide)
  rw [show a - nI (fb_ct (fun f => decide (w f ≠ 0)) 0) = a from Int32.sub_zero a] at q
  exact q
theorem m_alone_L {w : Nat → Nat} {nl nf : Nat} (I : mI) (J : mJ) (hH : MH I nl nf) (hw : ∀ b, b < nf → I 10 b = nmI (w b) ∧ w b ≤ 12) (a : Int32) : f_X9_alone_L19 kM 0 I J rM 8192 a 0 = some (a - nI (fb_ct (fun f => decide (w f ≠ 0)) nf)) := by
  obtain ⟨h1, h2, h3, h4⟩ := hH
  have Lp : ∀ (N d j : Nat), j + d = nf → d < N → f_X9_alone_L19 kM 0 I J rM N (a - nI (fb_ct (fun f => decide (w f ≠ 0)) j)) (nI j) = some (a - nI (fb_ct (fun f => decide (w f ≠ 0)) nf)) := by
    intro N
    induction N with
    | zero => intro d j e1 e2; omega
    | succ N ih =>
      intro d j e1 e2
      rw [f_X9_alone_L19, if_pos km0, rq0, Option.bind_some, if_pos ix11, cl1, h2]
      by_cases hd : d = 0
      · have : j = nf := by omega
        subst this
        rw [if_pos (nI_le (Nat.le_refl _) (by omega))]
      · have hj : j < nf := by omega
        have ih' := ih (d - 1) (j + 1) (by omega) (by omega)
        obtain ⟨w1, w2⟩ := hw j hj
        rw [fb_ct_succ] at ih'
        rw [if_neg (nI_ge hj (by omega)), rq9, Option.bind_some, if_pos (mx j km10 (by omega) (by decide)), nI_c (show j < 2 ^ 31 by omega), w1, nI_s1]
        by_cases hl : w j = 0
        · rw [if_pos ((nmI_iff (by omega)).mpr hl), m_one, Option.bind_some, mb_f, Int32.sub_zero]
          simp only [hl, ne_eq, not_true, decide_false, Bool.false_eq_true, if_false, Nat.add_zero] at ih'
          exact ih'
        · rw [if_neg (fun z => hl ((nmI_iff (by omega)).mp z)), m_one, Option.bind_some, mb_t]
          simp only [hl, ne_eq, not_false_eq_true, decide_true, if_true] at ih'
          rw [← nI_s1, i32_sub_add] at ih'
          exact ih'
  have q := Lp 8192 nf 0 (by omega) (by omega)
  rw [show a - nI (fb_ct (fun f => decide (w f ≠ 0)) 0) = a from Int32.sub_zero a] at q
  exact q
theorem ixM {j : Nat} (hj : j < 42) : mIx kM 14 1 (nI j) := mx j km14 hj (by decide)
theorem q166 : kX 166 = (0, 7) := rfl
theorem XR.t {R : mR} {L L' : Nat} (h : XR R L L') : R 0 4 = some 166 ∧ R 166 0 = some 167 ∧ R 0 5 = some 168 := ⟨h.at (by decide) (by decide) rfl, h.at (by decide) (by decide) rfl, h.at (by decide) (by decide) rfl⟩
theorem s_count {I : mI} {R : mR} {I' : mI} (h : Sim I R I') (J J' : mJ) (a1 : Int32) : ∃ v I1 J1 I1', f_X8_count kX 0 a1 I J R = some (v, I1, J1) ∧ f_X9_count kM 0 a1 I' J' rM = some (v, I1') ∧ Sim I1 R I1' := by
  obtain ⟨nl, nf, C, ld, nm, lw, ns, sb, sm, sp, tl, tb, L, L', h⟩ := h
  have h0 := h
  obtain ⟨⟨g1, g2, g3, g4⟩, ⟨x1, x2, x3, x4, x5⟩, h3, h4, ⟨m1, m2, m3, m4⟩, h6, h7, h8⟩ := h0
  obtain ⟨r0, r1, -, -, r4, -, rn, -, -⟩ := x1.b
  obtain ⟨rs0, rs1, rs2⟩ := x1.s
  obtain ⟨rt0, rt1, rt2⟩ := x1.t
  obtain ⟨l0, -, -, -, l4, -, -, -, l8⟩ := x1.law.1
  have hn := x2.2.2
  rw [f_X8_count, f_X9_count]
  by_cases c0 : a1 = 0
  · rw [if_pos c0, if_pos c0, if_pos q0, r0, Option.bind_some, if_pos q1, x2.1, if_pos km0, rq0, Option.bind_some, if_pos ix10, sb_cl0, m1.1]
    exact ⟨_, _, _, _, rfl, rfl, h.s⟩
  rw [if_neg c0, if_neg c0]
  by_cases c1 : a1 = 1
  · rw [if_pos c1, if_pos c1, if_pos q0, r1, Option.bind_some, if_pos q63, r4, Option.bind_some, if_pos q64, x2.2.1, if_pos km0, rq0, Option.bind_some, if_pos ix11, cl1, m1.2.1]
    exact ⟨_, _, _, _, rfl, rfl, h.s⟩
  rw [if_neg c1, if_neg c1]
  by_cases c2 : a1 = 2
  · rw [if_pos c2, if_pos c2, if_pos q0, r1, Option.bind_some, if_pos q63, x_howMany x1 g2 I J x2 x4, Option.bind_some, if_pos km0, m_bodies g2 I' J' m1 m3, Option.bind_some]
    exact ⟨_, _, _, _, rfl, rfl, h.s⟩
  rw [if_neg c2, if_neg c2]
  by_cases c3 : a1 = 3
  · rw [if_pos c3, if_pos c3, if_pos q0, r1, Option.bind_some, if_pos q63, x_howManyNamed x1 g2 hn.1 I J x4, Option.bind_some, if_pos km0, m_names g1 g2 h.2.2.2.2.1 J' false, Option.bind_some, names_f g2 hn.2]
    exact ⟨_, _, _, _, rfl, rfl, h.s⟩
  rw [if_neg c3, if_neg c3]
  by_cases c4 : a1 = 4
  · rw [if_pos c4, if_pos c4, if_pos q0, rs0, Option.bind_some, if_pos q128, h3.1, if_pos km0, h6.1]
    exact ⟨_, _, _, _, rfl, rfl, h.s⟩
  rw [if_neg c4, if_neg c4]
  by_cases c5 : a1 = 5
  · obtain ⟨I1, o1, o2⟩ := x_howManyInDoubt g1 g2 h.2.1 J
    have e : fb_ct (fun f => decide (ld f = f) && (decide (nm f ≠ 0) && (!true || dbt C ld nm nf f))) nf = fb_ct (fun f => decide (ld f = f) && dbt C ld nm nf f) nf := fb_ct_cong (fun k _ => by
      unfold dbt
      cases decide (nm k ≠ 0) <;> simp)
    rw [if_pos c5, if_pos c5, if_pos q0, o1, Option.bind_some, if_pos km0, m_names g1 g2 h.2.2.2.2.1 J' true, Option.bind_some, e]
    exact ⟨_, _, _, _, rfl, rfl, (h.same o2 sameM.rfl).s⟩
  rw [if_neg c5, if_neg c5]
  by_cases c6 : a1 = 6
  · obtain ⟨I1, J1, I1', μ, s, u1, u2, u3, u4, u5, u6, u7, u8, u9, u10, u11⟩ := u_pairs h J J'
    have hs := h.same u3 u4
    have q1' := x_unpaired x1 (w := fun b => if nm b = 0 then μ b else nm b) I1 J1 (fun b hb => ⟨u5 b hb, by
      have := u7 b hb
      have := (g2 b hb).2.2.2.1
      show (if nm b = 0 then μ b else nm b) ≤ 12
      split <;> omega⟩) (nI nl)
    have q2' := m_alone_L (w := μ) I1' J' (m1.same u4) (fun b hb => ⟨u6 b hb, by have := u7 b (by omega); omega⟩) (nI nl - nI (fb_ct (fun f => decide (nm f ≠ 0)) 12))
    have e : fb_ct (fun f => decide ((if nm f = 0 then μ f else nm f) ≠ 0)) 12 = fb_ct (fun f => decide (nm f ≠ 0)) 12 + fb_ct (fun f => decide (μ f ≠ 0)) nf := by
      rw [← ct_cut (p := fun f => decide (μ f ≠ 0)) (q := fun f => decide (μ f ≠ 0)) hn.2 (fun _ _ => rfl) (fun k k1 k2 => by
        by_cases z : μ k = 0
        · simp [z]
        · have := ((u7 k k2).2 z).1; omega), ← fb_ct_or (fun k hk => by
        simp only [decide_eq_true_eq]
        rintro ⟨z1, z2⟩
        exact z1 ((u7 k hk).2 z2).2)]
      apply fb_ct_cong
      intro k hk
      by_cases z : nm k = 0
      · simp [z]
      · simp [z]
    have ea : f_X9_alone kM 0 I' J' rM = some (nI nl - nI (fb_ct (fun f => decide (nm f ≠ 0)) 12) - nI (fb_ct (fun f => decide (μ f ≠ 0)) nf), I1') := by
      rw [f_X9_alone, if_pos km0, u2, Option.bind_some, rq0, Option.bind_some, if_pos ix10, sb_cl0, (m1.same u4).1, m_names g1 g2 hs.2.2.2.2.1 J' false, Option.bind_some, names_f g2 hn.2, q2', Option.bind_some]
    have ex : f_X8_howManyUnpaired kX 0 I J R = some (nI nl - nI (fb_ct (fun f => decide (nm f ≠ 0)) 12) - nI (fb_ct (fun f => decide (μ f ≠ 0)) nf), I1, J1) := by
      rw [f_X8_howManyUnpaired, if_pos q0, u1, Option.bind_some]
      dsimp only
      rw [r0, Option.bind_some, if_pos q1, (x2.same u3).1, q1', Option.bind_some, e, ← nI_add, i32_sub_add]
    rw [if_pos c6, if_pos c6, if_pos q0, ex, Option.bind_some, if_pos km0, ea, Option.bind_some]
    exact ⟨_, _, _, _, rfl, rfl, hs.s⟩
  rw [if_neg c6, if_neg c6]
  by_cases c7 : a1 = 7
  · rw [if_pos c7, if_pos c7, if_pos q0, rt0, Option.bind_some, if_pos q166, h4.1, if_pos km0, h7.1]
    exact ⟨_, _, _, _, rfl, rfl, h.s⟩
  rw [if_neg c7, if_neg c7]
  by_cases c8 : a1 = 8
  · rw [if_pos c8, if_pos c8, if_pos q0, x1.2.1, Option.bind_some, if_pos l0, l8, Option.bind_some, if_pos (show mIx kX (L + 4) 1 (1 : Int32) from ixL x1.law.1 (j := 1) (by decide)), cl1, x5.2.2.2 1 (by decide), if_pos km0, rq14, Option.bind_some, if_pos (show mIx kM 14 1 (18 : Int32) from ixM (j := 18) (by decide)), show ((18 : Int32)).toNatClampNeg = 18 from rfl, m4 18 (by decide)]
    exact ⟨_, _, _, _, rfl, rfl, h.s⟩
  rw [if_neg c8, if_neg c8]
  by_cases c9 : a1 = 9
  · rw [if_pos c9, if_pos c9, if_pos q0, x1.2.1, Option.bind_some, if_pos l0, l8, Option.bind_some, if_pos (show mIx kX (L + 4) 1 (2 : Int32) from ixL x1.law.1 (j := 2) (by decide)), show ((2 : Int32)).toNatClampNeg = 2 from rfl, x5.2.2.2 2 (by decide), if_pos km0, rq14, Option.bind_some, if_pos (show mIx kM 14 1 (19 : Int32) from ixM (j := 19) (by decide)), show ((19 : Int32)).toNatClampNeg = 19 from rfl, m4 19 (by decide)]
    exact ⟨_, _, _, _, rfl, rfl, h.s⟩
  rw [if_neg c9, if_neg c9]
  by_cases c10 : a1 = 10
  · rw [if_pos c10, if_pos c10, if_pos q0, x1.2.1, Option.bind_some, if_pos l0, l8, Option.bind_some, if_pos (show mIx kX (L + 4) 1 (3 : Int32) from ixL x1.law.1 (j := 3) (by decide)), show ((3 : Int32)).toNatClampNeg = 3 from rfl, x5.2.2.2 3 (by decide), if_pos km0, rq14, Option.bind_some, if_pos (show mIx kM 14 1 (20 : Int32) from ixM (j := 20) (by decide)), show ((20 : Int32)).toNatClampNeg = 20 from rfl, m4 20 (by decide)]
    exact ⟨_, _, _, _, rfl, rfl, h.s⟩
  rw [if_neg c10, if_neg c10]
  exact ⟨_, _, _, _, rfl, rfl, h.s⟩
theorem q168 : kX 168 = (0, 5) := rfl
theorem s_fault {I : mI} {R : mR} {I' : mI} (h : Sim I R I') (J J' : mJ) : ∃ v, f_X8_fault kX 0 I J R = some v ∧ f_X9_fault kM 0 I' J' rM = some v := by
  obtain ⟨nl, nf, C, ld, nm, lw, ns, sb, sm, sp, tl, tb, L, L', h⟩ := h
  obtain ⟨rt0, rt1, rt2⟩ := h.2.1.1.t
  refine ⟨I 168 4, ?_, ?_⟩
  · rw [f_X8_fault, if_pos q0, rt2, Option.bind_some, if_pos q168]
  · rw [f_X9_fault, if_pos km0, h.2.2.2.2.2.2.2]
