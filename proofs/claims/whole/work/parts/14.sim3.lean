theorem nI_minus {a b : Nat} (h : b ≤ a) : nI a - nI b = nI (a - b) := by
  have e := nI_add (a - b) b
  rw [show a - b + b = a by omega] at e
  rw [← e, Int32.add_sub_cancel]
theorem body_case {nl nf : Nat} {C : Nat → Nat → Nat} {ld nm lw : Nat → Nat} {ns : Nat} {sb sm sp : Nat → Nat} {tl : Nat} {tb : Nat → Int32} {L L' : Nat} {I : mI} {R : mR} {I' : mI} (h : SimA nl nf C ld nm lw ns sb sm sp tl tb L L' I R I') (J J' : mJ) (x : Int32) : (∃ j, j < nf ∧ x = nI j ∧ ld j < nf ∧ ld (ld j) = ld j ∧ f_X0_leaderOf kX 63 x I J R = some (nI (ld j)) ∧ f_X9_isFile kM 0 1 x I' J' rM = some true ∧ mIx kM 6 1 x ∧ I' 6 x.toNatClampNeg = nI (ld j)) ∨ (f_X0_leaderOf kX 63 x I J R = some (-1) ∧ f_X9_isFile kM 0 1 x I' J' rM = some false) := by
  obtain ⟨⟨g1, g2, g3, g4⟩, ⟨x1, x2, x3, x4, x5⟩, -, -, ⟨m1, m2, m3, m4⟩, -, -, -⟩ := h
  have hn := x2.2.2
  rcases argc x (show nf < 2 ^ 31 by omega) with ⟨j, j1, rfl⟩ | hy
  · have b1 := (g2 j (by omega)).1
    exact Or.inl ⟨j, j1, rfl, by omega, (g2 j (by omega)).2.1, x_leader_yes x1 x2 x4 j1, m_isFile_yes (s := 1) (by decide) hn.2 j1 J' m1.2.1, mx j km6 (by omega) (by decide), by rw [nI_c (by omega)]; exact (m3 j j1).1⟩
  · exact Or.inr ⟨x_leader_no x1 x2 hy, m_isFile_no (s := 1) (by decide) hn.2 J' m1.2.1 hy⟩
theorem miss_case {nl nf : Nat} {C : Nat → Nat → Nat} {ld nm lw : Nat → Nat} {ns : Nat} {sb sm sp : Nat → Nat} {tl : Nat} {tb : Nat → Int32} {L L' : Nat} {I : mI} {R : mR} {I' : mI} (h : SimA nl nf C ld nm lw ns sb sm sp tl tb L L' I R I') (J J' : mJ) (x : Int32) : (∃ m, m < nl ∧ x = nI m ∧ f_X2_find kX 1 x I J R = some (some (cid m)) ∧ f_X9_isFile kM 0 0 x I' J' rM = some true) ∨ (f_X2_find kX 1 x I J R = some none ∧ f_X9_isFile kM 0 0 x I' J' rM = some false) := by
  obtain ⟨⟨g1, g2, g3, g4⟩, ⟨x1, x2, x3, x4, x5⟩, -, -, ⟨m1, m2, m3, m4⟩, -, -, -⟩ := h
  have hn := x2.2.2
  rcases argc x (show nl < 2 ^ 31 by omega) with ⟨j, j1, rfl⟩ | hy
  · exact Or.inl ⟨j, j1, rfl, x_find_yes x1 x2 j1, m_isFile_yes (s := 0) (by decide) hn.1 j1 J' m1.1⟩
  · exact Or.inr ⟨x_find_no x1 x2 hy, m_isFile_no (s := 0) (by decide) hn.1 J' m1.1 hy⟩
theorem pair_case {nl nf : Nat} {C : Nat → Nat → Nat} {ld nm lw : Nat → Nat} {ns : Nat} {sb sm sp : Nat → Nat} {tl : Nat} {tb : Nat → Int32} {L L' : Nat} {I : mI} {R : mR} {I' : mI} (h : SimA nl nf C ld nm lw ns sb sm sp tl tb L L' I R I') (J J' : mJ) (x y : Int32) : (∃ j m, j < nf ∧ x = nI j ∧ ld j < nf ∧ ld (ld j) = ld j ∧ m < nl ∧ y = nI m ∧ f_X0_leaderOf kX 63 x I J R = some (nI (ld j)) ∧ f_X2_find kX 1 y I J R = some (some (cid m)) ∧ f_X9_isPair kM 0 x y I' J' rM = some true ∧ mIx kM 6 1 x ∧ I' 6 x.toNatClampNeg = nI (ld j)) ∨ (f_X9_isPair kM 0 x y I' J' rM = some false ∧ ∃ z w, f_X0_leaderOf kX 63 x I J R = some z ∧ f_X2_find kX 1 y I J R = some w ∧ (z = -1 ∨ (¬ z = -1 ∧ w = none))) := by
  have hn := h.2.1.2.1.2.2
  rcases body_case h J J' x with ⟨j, j1, rfl, j2, j3, o1, o2, o3, o4⟩ | ⟨o1, o2⟩
  · rcases miss_case h J J' y with ⟨m, m1, rfl, p1, p2⟩ | ⟨p1, p2⟩
    · refine Or.inl ⟨j, m, j1, rfl, j2, j3, m1, rfl, o1, p1, ?_, o3, o4⟩
      simp only [f_X9_isPair, km0, if_true, o2, p2, Option.bind_some, imt]
    · refine Or.inr ⟨?_, _, _, o1, p1, Or.inr ⟨nI_nm1 (by omega), rfl⟩⟩
      simp only [f_X9_isPair, km0, if_true, o2, p2, Option.bind_some, imt, imf]
  · refine Or.inr ⟨by simp only [f_X9_isPair, km0, if_true, o2, Option.bind_some, imf], ?_⟩
    rcases miss_case h J J' y with ⟨m, m1, rfl, p1, p2⟩ | ⟨p1, p2⟩
    · exact ⟨_, _, o1, p1, Or.inl rfl⟩
    · exact ⟨_, _, o1, p1, Or.inl rfl⟩
theorem s_body {I : mI} {R : mR} {I' : mI} (h : Sim I R I') (J J' : mJ) (a1 : Int32) : ∃ v, f_X8_body kX 0 a1 I J R = some v ∧ f_X9_body kM 0 a1 I' J' rM = some v := by
  obtain ⟨nl, nf, C, ld, nm, lw, ns, sb, sm, sp, tl, tb, L, L', h⟩ := h
  obtain ⟨r0, r1, -, -, r4, -, -, -, -⟩ := h.2.1.1.b
  rcases body_case h J J' a1 with ⟨j, j1, e1, j2, j3, o1, o2, o3, o4⟩ | ⟨o1, o2⟩
  · refine ⟨nI (ld j), ?_, ?_⟩
    · simp only [f_X8_body, q0, if_true, r1, Option.bind_some, q63, o1]
    · rw [f_X9_body, if_pos km0, o2, Option.bind_some, imt, rq5, Option.bind_some, if_pos o3, o4]
  · refine ⟨-1, ?_, ?_⟩
    · simp only [f_X8_body, q0, if_true, r1, Option.bind_some, q63, o1]
    · rw [f_X9_body, if_pos km0, o2, Option.bind_some, imf]
theorem bC_lt1000 {C : Nat → Nat → Nat} {nl nf : Nat} (h : CI C nl nf) {ld : Nat → Nat} {b : Nat} (hn : nf ≤ 12) : ∀ t, t < 22 → bC C ld b nf t < 1000 := fun t ht => by have := bC_lt h (ld := ld) (b := b) hn t ht; omega
theorem C_lt1000 {C : Nat → Nat → Nat} {nl nf m : Nat} (h : CI C nl nf) (hm : m < 24) : ∀ t, t < 22 → C m t < 1000 := fun t ht => by have := h.lt hm ht; omega
theorem x_barOf {nl nf : Nat} {C : Nat → Nat → Nat} {ld nm lw : Nat → Nat} {L L' : Nat} {I : mI} {R : mR} (hCI : CI C nl nf) (hBI : BI ld nm nl nf) (hX : XA I R nl nf C ld nm lw L L') (J : mJ) {b m : Nat} (hb : b < 12) (hm : m < 12) : ∃ I1, f_X8_barOf kX 0 (nI b) (cid m) I J R = some (nI (barC (bC C ld b nf) (C m)), I1) ∧ sameX I I1 := by
  obtain ⟨x1, x2, x3, x4, x5⟩ := hX
  obtain ⟨r0, r1, r6, -, r4, -, -, -, -⟩ := x1.b
  obtain ⟨I1, o1, o2, o3⟩ := x_gather x1 hCI hBI (Or.inl rfl) hb I J x2 x3 x4
  have s1 := sameX.seen (Or.inl rfl) o3
  refine ⟨I1, ?_, s1⟩
  simp only [f_X8_barOf, q0, if_true, r1, Option.bind_some, r6, q63, o1, x1.seen.1.1]
  rw [x_barFrom x1.seen.1 (x1.card (show m < 24 by omega)) (bC_lt1000 hCI x2.2.2.2) (C_lt1000 hCI (by omega)) o2 (x3.same s1 m (by omega)), Option.bind_some]
theorem s_shut {I : mI} {R : mR} {I' : mI} (h : Sim I R I') (J J' : mJ) (a1 a2 : Int32) : ∃ v I1, f_X8_shut kX 0 a1 a2 I J R = some (v, I1) ∧ f_X9_shut kM 0 a1 a2 I' J' rM = some v ∧ Sim I1 R I' := by
  obtain ⟨nl, nf, C, ld, nm, lw, ns, sb, sm, sp, tl, tb, L, L', h⟩ := h
  obtain ⟨r0, r1, -, -, r4, -, -, -, -⟩ := h.2.1.1.b
  have hn := h.2.1.2.1.2.2
  rcases pair_case h J J' a1 a2 with ⟨j, m, j1, e1, j2, j3, m1, e2, o1, o2, o3, o4, o5⟩ | ⟨o3, z, w, o1, o2, o4⟩
  · obtain ⟨I1, p1, p2⟩ := x_barOf h.1.1 h.1.2.1 h.2.1 J (show ld j < 12 by omega) (show m < 12 by omega)
    refine ⟨nI (barC (bC C ld (ld j) nf) (C m)), I1, ?_, ?_, (h.same p2 sameM.rfl).s⟩
    · simp only [f_X8_shut, q0, if_true, r1, r0, Option.bind_some, q63, q1, o1, o2, nI_nm1 (show ld j < 2 ^ 31 by omega), if_false, mON_s, p1]
    · rw [f_X9_shut, if_pos km0, o3, Option.bind_some, imt, rq5, Option.bind_some, if_pos o4, o5, e2, m_shutOf h.1.1 h.1.2.1 j2 m1 I' J' h.2.2.2.2.1.1 h.2.2.2.2.1.2.1 h.2.2.2.2.1.2.2.1, Option.bind_some]
  · refine ⟨-1, I, ?_, ?_, h.s⟩
    · rcases o4 with rfl | ⟨o4, rfl⟩
      · simp only [f_X8_shut, q0, if_true, r1, r0, Option.bind_some, q63, q1, o1, o2]
      · simp only [f_X8_shut, q0, if_true, r1, r0, Option.bind_some, q63, q1, o1, o2, o4, if_false, mON_n]
    · simp only [f_X9_shut, km0, if_true, o3, Option.bind_some, imf]
theorem s_points {I : mI} {R : mR} {I' : mI} (h : Sim I R I') (J J' : mJ) (a1 a2 : Int32) : ∃ v I1, f_X8_points kX 0 a1 a2 I J R = some (v, I1) ∧ f_X9_points kM 0 a1 a2 I' J' rM = some v ∧ Sim I1 R I' := by
  obtain ⟨nl, nf, C, ld, nm, lw, ns, sb, sm, sp, tl, tb, L, L', h⟩ := h
  have h0 := h
  obtain ⟨⟨g1, g2, g3, g4⟩, ⟨x1, x2, x3, x4, x5⟩, h3, h4, ⟨m1, m2, m3, m4⟩, h6, h7, h8⟩ := h0
  obtain ⟨r0, r1, r6, -, r4, -, -, -, -⟩ := x1.b
  have hn := x2.2.2
  rcases pair_case h J J' a1 a2 with ⟨j, m, j1, e1, j2, j3, k1, e2, o1, o2, o3, o4, o5⟩ | ⟨o3, z, w, o1, o2, o4⟩
  · obtain ⟨I1, p1, p2, p3⟩ := x_gather x1 g1 g2 (Or.inl rfl) (show ld j < 12 by omega) I J x2 x3 x4
    have s1 := sameX.seen (Or.inl rfl) p3
    obtain ⟨b1, b2⟩ := bC_rng g1 (ld := ld) (b := ld j) hn.2
    refine ⟨if barC (bC C ld (ld j) nf) (C m) = 0 then ptA (bC C ld (ld j) nf) (C m) lw else -100000, I1, ?_, ?_, (h.same s1 sameM.rfl).s⟩
    · simp only [f_X8_points, q0, if_true, r1, r0, Option.bind_some, q63, q1, o1, o2, nI_nm1 (show ld j < 2 ^ 31 by omega), if_false, mON_s, r6, p1, x1.2.1, x1.law.1.1]
      rw [x_weigh x1.law.1 x1.seen.1 (x1.card (show m < 24 by omega)) (bC_lt1000 g1 hn.2) b1 b2 (C_lt1000 g1 (by omega)) p2 (x3.same s1 m (by omega)) (x5.same x1.L.1 s1), Option.bind_some]
    · rw [f_X9_points, if_pos km0, o3, Option.bind_some, imt, rq5, Option.bind_some, if_pos o4, o5, e2, m_pointsOf g1 g2 j2 k1 I' J' m1 m2 m3 m4, Option.bind_some]
  · refine ⟨-1, I, ?_, ?_, h.s⟩
    · rcases o4 with rfl | ⟨o4, rfl⟩
      · simp only [f_X8_points, q0, if_true, r1, r0, Option.bind_some, q63, q1, o1, o2]
      · simp only [f_X8_points, q0, if_true, r1, r0, Option.bind_some, q63, q1, o1, o2, o4, if_false, mON_n]
    · simp only [f_X9_points, km0, if_true, o3, Option.bind_some, imf]
theorem x_sizeOf {R : mR} {L L' : Nat} (hR : XR R L L') {ld nm : Nat → Nat} {nl nf b : Nat} (hBI : BI ld nm nl nf) (hb : b < 12) (I : mI) (J : mJ) (hH : XH I nl nf) (hB : XB I ld nm) : f_X0_sizeOf kX 63 (nI b) I J R = some (nI (fb_ct (fun f => decide (ld f = b)) nf)) := by
  obtain ⟨-, -, -, -, r4, r5, -, r7, -⟩ := hR.b
  have hn := hH.2.2
  have Lp : ∀ (N d j : Nat), j + d = nf → d < N → f_X0_sizeOf_L4 kX 63 (nI b) I J R N (nI (fb_ct (fun f => decide (ld f = b)) j)) (nI j) = some (nI (fb_ct (fun f => decide (ld f = b)) nf)) := by
    intro N
    induction N with
    | zero => intro d j e1 e2; omega
    | succ N ih =>
      intro d j e1 e2
      rw [f_X0_sizeOf_L4, if_pos q63, r4, Option.bind_some, if_pos q64, hH.2.1]
      by_cases hd : d = 0
      · have : j = nf := by omega
        subst this
        rw [if_pos (nI_le (Nat.le_refl _) (by omega))]
      · have hj : j < nf := by omega
        have hld := (hBI j (by omega)).1
        have ih' := ih (d - 1) (j + 1) (by omega) (by omega)
        rw [fb_ct_succ] at ih'
        rw [if_neg (nI_ge hj (by omega)), r5, Option.bind_some, if_pos (mx j q126 (by omega) (by decide)), nI_c (show j < 2 ^ 31 by omega), (hB j (by omega)).1, nI_s1, nI_s1]
        by_cases hl : ld j = b
        · rw [hl, if_pos rfl]
          simp only [hl, decide_true, if_true] at ih'
          exact ih'
        · rw [if_neg (fun z => hl ((nI_eq (by omega) (by omega)).mp z))]
          simp only [hl, decide_false, Bool.false_eq_true, if_false, Nat.add_zero] at ih'
          exact ih'
  rw [f_X0_sizeOf, show f_X0_sizeOf_L4 kX 63 (nI b) I J R 8192 0 0 = _ from Lp 8192 nf 0 (by omega) (by omega), Option.bind_some]
theorem s_told {I : mI} {R : mR} {I' : mI} (h : Sim I R I') (J J' : mJ) (a1 a2 : Int32) : ∃ v I1, f_X8_told kX 0 a1 a2 I J R = some (v, I1) ∧ f_X9_told kM 0 a1 a2 I' J' rM = some v ∧ Sim I1 R I' := by
  obtain ⟨nl, nf, C, ld, nm, lw, ns, sb, sm, sp, tl, tb, L, L', h⟩ := h
  have h0 := h
  obtain ⟨⟨g1, g2, g3, g4⟩, ⟨x1, x2, x3, x4, x5⟩, h3, h4, ⟨m1, m2, m3, m4⟩, h6, h7, h8⟩ := h0
  obtain ⟨r0, r1, r6, -, r4, -, -, -, -⟩ := x1.b
  have hn := x2.2.2
  rcases body_case h J J' a1 with ⟨j, j1, e1, j2, j3, o1, o2, o3, o4⟩ | ⟨o1, o2⟩
  · obtain ⟨I1, p1, p2, p3⟩ := x_gather x1 g1 g2 (Or.inl rfl) (show ld j < 12 by omega) I J x2 x3 x4
    have s1 := sameX.seen (Or.inl rfl) p3
    have ob : ∀ t, t < 19 → f_X9_ofBody kM 0 (nI (ld j)) (nI t) I' J' rM = some (nI (bC C ld (ld j) nf t)) := fun t ht => m_ofBody g1 g2 j2 ht I' J' m1 m2 m3
    have ag := fun g => m_ageOf g1 g2 j2 g I' J' m1 m2 m3
    have po := m_piecesOf (C := C) (b := ld j) g2 (by omega) I' J' m1 (fun f hf => by
      have q := (m2 (12 + f) (by omega)).2.2.2 (by omega)
      rw [show 12 + f - 12 = f by omega] at q
      exact q) m3
    have n1 := nI_nm1 (show ld j < 2 ^ 31 by omega)
    obtain ⟨k0, k1, k2, k3, -, c4, c5, c6, -⟩ := x1.seen.1
    have xs : ∀ v, ¬ a2 = 4 → f_X1_answer kX 170 a2 I1 J R = some v → f_X8_told kX 0 a1 a2 I J R = some (v, I1) := fun v z1 z2 => by
      simp only [f_X8_told, q0, if_true, r1, Option.bind_some, q63, o1, n1, if_false, z1, r6, p1, k0, z2]
    by_cases z1 : (!decide (a2 < 10) && !decide (17 < a2)) = true
    · obtain ⟨k, i1, i2, rfl⟩ := inr (lo := 10) (hi := 17) (by decide) (by decide) z1
      refine ⟨nI (bC C ld (ld j) nf (1 + (k - 10))), I1, xs _ (fun z => ?_) ?_, ?_, (h.same s1 sameM.rfl).s⟩
      · have := (nI_eq (show k < 2 ^ 31 by omega) (show 4 < 2 ^ 31 by decide)).mp z
        omega
      · simp only [f_X1_answer, x_win, Option.bind_some, z1, imt, k0, if_true, c4]
        rw [show (10 : Int32) = nI 10 from rfl, nI_minus i1, if_pos (mx _ k1 (show k - 10 < 8 by omega) (by decide)), nI_c (by omega), p2.t (by omega)]
      · rw [f_X9_told, if_pos km0, o2, Option.bind_some, imt, rq5, Option.bind_some, if_pos o3, m_isIn, Option.bind_some, z1, imt, o4, show (1 : Int32) = nI 1 from rfl, show (10 : Int32) = nI 10 from rfl, nI_add, nI_minus (show 10 ≤ 1 + k by omega), show 1 + k - 10 = 1 + (k - 10) by omega, ob _ (by omega), Option.bind_some]
    · have z1 : (!decide (a2 < 10) && !decide (17 < a2)) = false := by simpa using z1
      by_cases z2 : (!decide (a2 < 20) && !decide (23 < a2)) = true
      · obtain ⟨k, i1, i2, rfl⟩ := inr (lo := 20) (hi := 23) (by decide) (by decide) z2
        refine ⟨nI (bC C ld (ld j) nf (9 + (k - 20))), I1, xs _ (fun z => ?_) ?_, ?_, (h.same s1 sameM.rfl).s⟩
        · have := (nI_eq (show k < 2 ^ 31 by omega) (show 4 < 2 ^ 31 by decide)).mp z
          omega
        · simp only [f_X1_answer, x_win, Option.bind_some, z1, z2, imf, imt, k0, if_true, c5]
          rw [show (20 : Int32) = nI 20 from rfl, nI_minus i1, if_pos (mx _ k2 (show k - 20 < 4 by omega) (by decide)), nI_c (by omega), p2.m (by omega)]
        · rw [f_X9_told, if_pos km0, o2, Option.bind_some, imt, rq5, Option.bind_some, if_pos o3, m_isIn, Option.bind_some, z1, imf, m_isIn, Option.bind_some, z2, imt, o4, show (9 : Int32) = nI 9 from rfl, show (20 : Int32) = nI 20 from rfl, nI_add, nI_minus (show 20 ≤ 9 + k by omega), show 9 + k - 20 = 9 + (k - 20) by omega, ob _ (by omega), Option.bind_some]
      · have z2 : (!decide (a2 < 20) && !decide (23 < a2)) = false := by simpa using z2
        by_cases z3 : (!decide (a2 < 30) && !decide (32 < a2)) = true
        · obtain ⟨k, i1, i2, rfl⟩ := inr (lo := 30) (hi := 32) (by decide) (by decide) z3
          refine ⟨nI (bC C ld (ld j) nf (13 + (k - 30))), I1, xs _ (fun z => ?_) ?_, ?_, (h.same s1 sameM.rfl).s⟩
          · have := (nI_eq (show k < 2 ^ 31 by omega) (show 4 < 2 ^ 31 by decide)).mp z
            omega
          · simp only [f_X1_answer, x_win, Option.bind_some, z1, z2, z3, imf, imt, k0, if_true, c6]
            rw [show (30 : Int32) = nI 30 from rfl, nI_minus i1, if_pos (mx _ k3 (show k - 30 < 3 by omega) (by decide)), nI_c (by omega), p2.h (by omega)]
          · rw [f_X9_told, if_pos km0, o2, Option.bind_some, imt, rq5, Option.bind_some, if_pos o3, m_isIn, Option.bind_some, z1, imf, m_isIn, Option.bind_some, z2, imf, m_isIn, Option.bind_some, z3, imt, o4, show (13 : Int32) = nI 13 from rfl, show (30 : Int32) = nI 30 from rfl, nI_add, nI_minus (show 30 ≤ 13 + k by omega), show 13 + k - 30 = 13 + (k - 30) by omega, ob _ (by omega), Option.bind_some]
        · have z3 : (!decide (a2 < 30) && !decide (32 < a2)) = false := by simpa using z3
          have xa : f_X1_answer kX 170 a2 I1 J R = if a2 = (0 : Int32) then some (nI (bC C ld (ld j) nf 0)) else if a2 = (1 : Int32) then some (nI (bC C ld (ld j) nf 19)) else if a2 = (2 : Int32) then some (nI (bC C ld (ld j) nf 20)) else if a2 = (3 : Int32) then some (nI (bC C ld (ld j) nf 21)) else some (-1) := by
            simp only [f_X1_answer, x_win, Option.bind_some, z1, z2, z3, imf, k0, if_true, p2.s.1, p2.s.2.1, p2.s.2.2.1, p2.s.2.2.2]
          have ma : f_X9_told kM 0 a1 a2 I' J' rM = if a2 = (0 : Int32) then some (nI (bC C ld (ld j) nf 0)) else if a2 = (1 : Int32) then some (nI (bC C ld (ld j) nf 19)) else if a2 = (2 : Int32) then some (nI (bC C ld (ld j) nf 20)) else if a2 = (3 : Int32) then some (nI (bC C ld (ld j) nf 21)) else if a2 = (4 : Int32) then some (nI (fb_ct (fun f => decide (ld f = ld j)) nf)) else some (-1) := by
            rw [f_X9_told, if_pos km0, o2, Option.bind_some, imt, rq5, Option.bind_some, if_pos o3, m_isIn, Option.bind_some, z1, imf, m_isIn, Option.bind_some, z2, imf, m_isIn, Option.bind_some, z3, imf, o4, show f_X9_ofBody kM 0 (nI (ld j)) 0 I' J' rM = _ from ob 0 (by decide), ag false, ag true, po, m_sizeOf g2 (show ld j < 12 by omega) I' J' m1 m3]
            simp only [Option.bind_some, if_true, Bool.false_eq_true, if_false]
          by_cases y : a2 = 4
          · refine ⟨nI (fb_ct (fun f => decide (ld f = ld j)) nf), I, ?_, ?_, h.s⟩
            · simp only [f_X8_told, q0, if_true, r1, Option.bind_some, q63, o1, n1, if_false, y, x_sizeOf x1 g2 (show ld j < 12 by omega) I J x2 x4]
            · rw [ma, y, if_neg (by decide), if_neg (by decide), if_neg (by decide), if_neg (by decide), if_pos rfl]
          · rw [ma, if_neg y]
            by_cases y0 : a2 = 0
            · exact ⟨_, I1, xs _ y (by rw [xa, if_pos y0]), by rw [if_pos y0], (h.same s1 sameM.rfl).s⟩
            · by_cases y1 : a2 = 1
              · exact ⟨_, I1, xs _ y (by rw [xa, if_neg y0, if_pos y1]), by rw [if_neg y0, if_pos y1], (h.same s1 sameM.rfl).s⟩
              · by_cases y2 : a2 = 2
                · exact ⟨_, I1, xs _ y (by rw [xa, if_neg y0, if_neg y1, if_pos y2]), by rw [if_neg y0, if_neg y1, if_pos y2], (h.same s1 sameM.rfl).s⟩
                · by_cases y3 : a2 = 3
                  · exact ⟨_, I1, xs _ y (by rw [xa, if_neg y0, if_neg y1, if_neg y2, if_pos y3]), by rw [if_neg y0, if_neg y1, if_neg y2, if_pos y3], (h.same s1 sameM.rfl).s⟩
                  · exact ⟨_, I1, xs _ y (by rw [xa, if_neg y0, if_neg y1, if_neg y2, if_neg y3]), by rw [if_neg y0, if_neg y1, if_neg y2, if_neg y3], (h.same s1 sameM.rfl).s⟩
  · refine ⟨-1, I, ?_, ?_, h.s⟩
    · simp only [f_X8_told, q0, if_true, r1, Option.bind_some, q63, o1]
    · simp only [f_X9_told, km0, if_true, o2, Option.bind_some, imf]
