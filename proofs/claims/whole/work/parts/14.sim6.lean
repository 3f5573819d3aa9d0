/-! ===== the pairing, both ways ===== -/
theorem u_pairs {nl nf : Nat} {C : Nat → Nat → Nat} {ld nm lw : Nat → Nat} {ns : Nat} {sb sm sp : Nat → Nat} {tl : Nat} {tb : Nat → Int32} {L L' : Nat} {I : mI} {R : mR} {I' : mI} (h : SimA nl nf C ld nm lw ns sb sm sp tl tb L L' I R I') (J J' : mJ) : ∃ (I1 : mI) (J1 : mJ) (I1' : mI) (μ : Nat → Nat) (s : Nat), f_X8_pairUp kX 0 I J R = some (I1, J1) ∧ f_X9_shares kM 0 I' J' rM = some I1' ∧ sameX I I1 ∧ sameM I' I1' ∧ (∀ b, b < 12 → I1 145 b = nmI (if nm b = 0 then μ b else nm b)) ∧ (∀ b, b < nf → I1' 10 b = nmI (μ b)) ∧ (∀ b, b < 12 → μ b ≤ nl ∧ (μ b ≠ 0 → b < nf ∧ nm b = 0)) ∧ I1 131 2 = nI s ∧ I1' 9 0 = nI s ∧ (∀ b m, b < 12 → m < 12 → I1 (133 + b) m = nI (PP C ld nm lw nl nf b m)) ∧ ∀ b m, b < nf → m < nl → I1' 8 (12 * b + m) = nI (PP C ld nm lw nl nf b m) := by
  obtain ⟨⟨g1, g2, g3, g4⟩, ⟨x1, x2, x3, x4, x5⟩, h3, h4, ⟨m1, m2, m3, m4⟩, h6, h7, h8⟩ := h
  have hn := x2.2.2
  obtain ⟨I1, J1, μ, o1, o2, o3, o4, o5, o6⟩ := x_pairUp x1 g1 g2 g3 I J x2 x3 x4 x5
  obtain ⟨I1', g, Sg, p1, p2, p3, p4, p5, p6⟩ := m_shares g1 g2 g3 I' J' m1 m2 m3 m4
  obtain ⟨e1, e2⟩ := pair_same hn.2 hn.1 (fun b m _ _ z => PP_z z) o3.1 o3.2.1 o3.2.2 (dD_tab (PP C ld nm lw nl nf) nf nl) p3
  refine ⟨I1, J1, I1', μ, _, o1, p1, o2, p2, o4, fun b hb => ?_, fun b hb => ?_, o5, ?_, o6, p6⟩
  · rw [p4 b hb, e1 b (by omega), if_pos hb]
  · have q := e1 b hb
    by_cases hbf : b < nf
    · rw [if_pos hbf] at q
      refine ⟨by rw [q]; exact (p3.2 b hbf).1, fun z => ⟨hbf, ?_⟩⟩
      have := (o3.1 b hb).2 z
      unfold PP at this
      split at this
      · rename_i w; exact w.2.2.2.1
      · omega
    · rw [if_neg hbf] at q
      exact ⟨by omega, fun z => absurd q z⟩
  · rw [p5, e2]
theorem s_pairing {I : mI} {R : mR} {I' : mI} (h : Sim I R I') (J J' : mJ) (a1 : Int32) : ∃ v I1 J1 I1', f_X8_pairing kX 0 a1 I J R = some (v, I1, J1) ∧ f_X9_pairing kM 0 a1 I' J' rM = some (v, I1') ∧ Sim I1 R I1' := by
  obtain ⟨nl, nf, C, ld, nm, lw, ns, sb, sm, sp, tl, tb, L, L', h⟩ := h
  have h0 := h
  obtain ⟨⟨g1, g2, g3, g4⟩, ⟨x1, x2, x3, x4, x5⟩, h3, h4, ⟨m1, m2, m3, m4⟩, h6, h7, h8⟩ := h0
  obtain ⟨r0, r1, -, -, r4, -, -, -, -⟩ := x1.b
  have hn := x2.2.2
  obtain ⟨I1, J1, I1', μ, s, u1, u2, u3, u4, u5, u6, u7, u8, u9, u10, u11⟩ := u_pairs h J J'
  obtain ⟨pr0, pr1, -⟩ := x1.p
  by_cases e : a1 = -1
  · subst e
    have o1 : f_X0_leaderOf kX 63 (-1) I J R = some (-1) := x_leader_no x1 x2 (Or.inl (by decide))
    refine ⟨nI s, I1, J1, I1', ?_, ?_, (h.same u3 u4).s⟩
    · simp only [f_X8_pairing, q0, if_true, r1, Option.bind_some, q63, o1, u1, x1.p3, k131, u8]
    · rw [f_X9_pairing, if_pos rfl, if_pos km0, u2, Option.bind_some, if_pos rfl, rq8, Option.bind_some, if_pos ix90, sb_cl0, u9]
  · rcases body_case h J J' a1 with ⟨j, j1, e1, j2, j3, o1, o2, o3, o4⟩ | ⟨o1, o2⟩
    · have n1 := nI_nm1 (show ld j < 2 ^ 31 by omega)
      have o5 : I1' 6 a1.toNatClampNeg = nI (ld j) := by rw [u4 _ _ (by decide) (by decide) (by decide)]; exact o4
      have bn := (g2 (ld j) (by omega)).2.2.2.1
      refine ⟨nmI (if nm (ld j) = 0 then μ (ld j) else nm (ld j)), I1, J1, I1', ?_, ?_, (h.same u3 u4).s⟩
      · simp only [f_X8_pairing, q0, if_true, r1, Option.bind_some, q63, o1, e, if_false, n1, u1, x1.p3, k131, pr1]
        rw [if_pos (mx _ k145 (show ld j < 12 by omega) (by decide)), nI_c (show ld j < 2 ^ 31 by omega), u5 _ (by omega)]
      · rw [f_X9_pairing, if_neg e, if_pos km0, o2, Option.bind_some, imt, u2, Option.bind_some, if_neg e, rq5, Option.bind_some, if_pos o3, o5, rq6, Option.bind_some, if_pos (mx _ km7 (show ld j < 12 by omega) (by decide)), nI_c (show ld j < 2 ^ 31 by omega), (m3.same u4 _ j2).2]
        by_cases z : nm (ld j) = 0
        · rw [if_pos ((nmI_iff (by omega)).mpr z), rq9, Option.bind_some, if_pos (mx _ km10 (show ld j < 12 by omega) (by decide)), u6 _ j2, if_pos z]
        · rw [if_neg (fun q => z ((nmI_iff (by omega)).mp q)), if_neg z]
    · refine ⟨-100000, I, J, I', ?_, ?_, h.s⟩
      · simp only [f_X8_pairing, q0, if_true, r1, Option.bind_some, q63, o1, e, if_false]
      · rw [f_X9_pairing, if_neg e, if_pos km0, o2, Option.bind_some, imf]
theorem u_loss {nl nf : Nat} {C : Nat → Nat → Nat} {ld nm lw : Nat → Nat} {L L' : Nat} {R : mR} (x1 : XR R L L') (g1 : CI C nl nf) (g3 : LI lw) {I1 : mI} {J1 : mJ} {I1' : mI} {J' : mJ} {b m s : Nat} (hb : b < nf) (hm : m < nl) (hf : nf ≤ 12) (hl : nl ≤ 12) (m1 : MH I1' nl nf) (u5 : I1 145 b = nI m) (u6 : I1' 10 b = nI m) (u8 : I1 131 2 = nI s) (u9 : I1' 9 0 = nI s) (u10 : ∀ b m, b < 12 → m < 12 → I1 (133 + b) m = nI (PP C ld nm lw nl nf b m)) (u11 : ∀ b m, b < nf → m < nl → I1' 8 (12 * b + m) = nI (PP C ld nm lw nl nf b m)) : ∃ v I2 J2 I2', f_X4_lossWithout kX 131 (nI b) I1 J1 R = some (v, I2, J2) ∧ f_X9_marginOf kM 0 (nI b) I1' J' rM = some (v, I2') ∧ sameX I1 I2 ∧ sameM I1' I2' := by
  have pl : ∀ b m, PP C ld nm lw nl nf b m ≤ 21000 := fun b m => PP_le g1 g3 hf
  obtain ⟨I2, J2, μ, o1, o2, o3⟩ := x_loss x1 (b := b) (m := m) (s := s) (by omega) (by omega) I1 J1 (fun b m e1 e2 => ⟨u10 b m e1 e2, pl b m⟩) u5 u8
  obtain ⟨I2', p1, p2⟩ := m_marginOf hb hm I1' J' m1 (fun b m e1 e2 => ⟨u11 b m e1 e2, pl b m⟩) u6 u9
  have ms := mu_sum hf hl (P := cutP (PP C ld nm lw nl nf) b m) (fun b' m' _ _ z => by
    unfold cutP
    split
    · rfl
    · exact PP_z z) o3
  rw [ms] at o1
  exact ⟨_, I2, J2, I2', o1, p1, o2, p2⟩
theorem s_margin {I : mI} {R : mR} {I' : mI} (h : Sim I R I') (J J' : mJ) (a1 : Int32) : ∃ v I1 J1 I1', f_X8_margin kX 0 a1 I J R = some (v, I1, J1) ∧ f_X9_margin kM 0 a1 I' J' rM = some (v, I1') ∧ Sim I1 R I1' := by
  obtain ⟨nl, nf, C, ld, nm, lw, ns, sb, sm, sp, tl, tb, L, L', h⟩ := h
  have h0 := h
  obtain ⟨⟨g1, g2, g3, g4⟩, ⟨x1, x2, x3, x4, x5⟩, h3, h4, ⟨m1, m2, m3, m4⟩, h6, h7, h8⟩ := h0
  obtain ⟨r0, r1, -, -, r4, -, rn, -, -⟩ := x1.b
  have hn := x2.2.2
  obtain ⟨pr0, pr1, -⟩ := x1.p
  rcases body_case h J J' a1 with ⟨j, j1, e1, j2, j3, o1, o2, o3, o4⟩ | ⟨o1, o2⟩
  · obtain ⟨I1, J1, I1', μ, s, u1, u2, u3, u4, u5, u6, u7, u8, u9, u10, u11⟩ := u_pairs h J J'
    have n1 := nI_nm1 (show ld j < 2 ^ 31 by omega)
    have o5 : I1' 6 a1.toNatClampNeg = nI (ld j) := by rw [u4 _ _ (by decide) (by decide) (by decide)]; exact o4
    have bn := (g2 (ld j) (by omega)).2.2.2.1
    have un := u7 (ld j) (by omega)
    have hx : f_X8_margin kX 0 a1 I J R = (if nmI (nm (ld j)) = (-1 : Int32) then if nmI (if nm (ld j) = 0 then μ (ld j) else nm (ld j)) = (-1 : Int32) then some ((-1 : Int32), I1, J1) else (f_X4_lossWithout kX 131 (nI (ld j)) I1 J1 R).bind fun z21 => some (z21.1, z21.2.1, z21.2.2) else some ((-1 : Int32), I, J)) := by
      simp only [f_X8_margin, q0, if_true, r1, Option.bind_some, q63, o1, n1, if_false, rn, u1, x1.p3, k131, pr1]
      rw [if_pos (mx _ q127 (show ld j < 12 by omega) (by decide)), nI_c (show ld j < 2 ^ 31 by omega), (x4 (ld j) (by omega)).2, if_pos (mx _ k145 (show ld j < 12 by omega) (by decide)), u5 _ (by omega)]
    have hm : f_X9_margin kM 0 a1 I' J' rM = (if nmI (μ (ld j)) = (-1 : Int32) then some ((-1 : Int32), I1') else (f_X9_marginOf kM 0 (nI (ld j)) I1' J' rM).bind fun z14 => some (z14.1, z14.2)) := by
      rw [f_X9_margin, if_pos km0, o2, Option.bind_some, imt, u2, Option.bind_some, rq5, Option.bind_some, if_pos o3, o5, rq9, Option.bind_some, if_pos (mx _ km10 (show ld j < 12 by omega) (by decide)), nI_c (show ld j < 2 ^ 31 by omega), u6 _ j2]
    rw [hx, hm]
    by_cases z : nm (ld j) = 0
    · rw [if_pos ((nmI_iff (by omega)).mpr z), if_pos z]
      by_cases y : μ (ld j) = 0
      · rw [if_pos ((nmI_iff (by omega)).mpr y), if_pos ((nmI_iff (by omega)).mpr y)]
        exact ⟨-1, I1, J1, I1', rfl, rfl, (h.same u3 u4).s⟩
      · obtain ⟨v, I2, J2, I2', p1, p2, p3, p4⟩ := u_loss (J1 := J1) (J' := J') x1 g1 g3 (b := ld j) (m := μ (ld j) - 1) j2 (by omega) hn.2 hn.1 (m1.same u4) (by rw [u5 _ (by omega), if_pos z, nmI_s y]) (by rw [u6 _ j2, nmI_s y]) u8 u9 u10 u11
        rw [if_neg (fun q => y ((nmI_iff (by omega)).mp q)), if_neg (fun q => y ((nmI_iff (by omega)).mp q)), p1, p2, Option.bind_some, Option.bind_some]
        exact ⟨v, I2, J2, I2', rfl, rfl, (h.same (u3.trans p3) (u4.trans p4)).s⟩
    · have y : μ (ld j) = 0 := by
        by_cases q : μ (ld j) = 0
        · exact q
        · exact absurd (un.2 q).2 z
      rw [if_neg (fun q => z ((nmI_iff (by omega)).mp q)), if_pos ((nmI_iff (by omega)).mpr y)]
      exact ⟨-1, I, J, I1', rfl, rfl, (h.same sameX.rfl u4).s⟩
  · refine ⟨-1, I, J, I', ?_, ?_, h.s⟩
    · simp only [f_X8_margin, q0, if_true, r1, Option.bind_some, q63, o1]
    · simp only [f_X9_margin, km0, if_true, o2, Option.bind_some, imf]
theorem BI.name {ld nm : Nat → Nat} {nl nf b v : Nat} (h : BI ld nm nl nf) (hb : b < nf) (e : ld b = b) (hv : v ≤ nl) : BI ld (pt nm b v) nl nf := fun f hf => by
  obtain ⟨b1, b2, b3, b4, b5⟩ := h f hf
  by_cases q : f = b
  · subst q
    rw [pt_eq]
    exact ⟨b1, b2, fun z => by omega, hv, fun _ => e⟩
  · rw [pt_ne q]
    exact ⟨b1, b2, b3, b4, b5⟩
theorem SimA.name {nl nf : Nat} {C : Nat → Nat → Nat} {ld nm lw : Nat → Nat} {ns : Nat} {sb sm sp : Nat → Nat} {tl : Nat} {tb : Nat → Int32} {L L' : Nat} {I : mI} {R : mR} {I' : mI} (h : SimA nl nf C ld nm lw ns sb sm sp tl tb L L' I R I') {b v : Nat} (hb : b < nf) (e : ld b = b) (hv : v ≤ nl) : SimA nl nf C ld (pt nm b v) lw ns sb sm sp tl tb L L' (mup I 127 b (nmI v)) R (mup I' 7 b (nmI v)) := by
  obtain ⟨⟨g1, g2, g3, g4⟩, ⟨x1, x2, x3, x4, x5⟩, h3, h4, ⟨m1, m2, m3, m4⟩, h6, h7, h8⟩ := h
  have hL := x1.L
  refine ⟨⟨g1, g2.name hb e hv, g3, g4⟩, ⟨x1, x2.cg (fun a k h => mup_ne _ _ (by omega)), x3.cg (fun a k h => mup_ne _ _ (by omega)), fun f hf => ⟨by rw [mup_ne _ _ (by omega)]; exact (x4 f hf).1, ?_⟩, x5.cg (fun a k h => mup_ne _ _ (by omega))⟩, h3.cg (fun a k h => mup_ne _ _ (by omega)), h4.cg (fun a k h => mup_ne _ _ (by omega)), ⟨m1.cg (fun k => mup_ne _ _ (by omega)), m2.cg (fun a k h => mup_ne _ _ (by omega)), fun f hf => ⟨by rw [mup_ne _ _ (by omega)]; exact (m3 f hf).1, ?_⟩, m4.cg (fun k _ => mup_ne _ _ (by omega))⟩, h6.cg (mup_ne _ _ (by omega)) (fun a k h => mup_ne _ _ (by omega)), h7.cg (mup_ne _ _ (by omega)) (fun k => mup_ne _ _ (by omega)), by rw [mup_ne _ _ (by omega), mup_ne _ _ (by omega)]; exact h8⟩
  · by_cases q : f = b
    · subst q; rw [mup_eq, pt_eq]
    · rw [mup_ne _ _ (by omega), pt_ne q]; exact (x4 f hf).2
  · by_cases q : f = b
    · subst q; rw [mup_eq, pt_eq]
    · rw [mup_ne _ _ (by omega), pt_ne q]; exact (m3 f hf).2
theorem ixL {L : Nat} {R : mR} (h : isL R L) {j : Nat} (hj : j < 4) : mIx kX (L + 4) 1 (nI j) := mx j h.2.2.2.2.1 hj (by decide)
theorem s_give {I : mI} {R : mR} {I' : mI} (h : Sim I R I') (J J' : mJ) (a1 : Int32) : ∃ v I1 J1 I1', f_X8_give kX 0 a1 I J R = some (v, I1, J1) ∧ f_X9_give kM 0 a1 I' J' rM = some (v, I1') ∧ Sim I1 R I1' := by
  obtain ⟨nl, nf, C, ld, nm, lw, ns, sb, sm, sp, tl, tb, L, L', h⟩ := h
  have h0 := h
  obtain ⟨⟨g1, g2, g3, g4⟩, ⟨x1, x2, x3, x4, x5⟩, h3, h4, ⟨m1, m2, m3, m4⟩, h6, h7, h8⟩ := h0
  obtain ⟨r0, r1, -, -, r4, -, rn, -, -⟩ := x1.b
  obtain ⟨rs0, rs1, rs2⟩ := x1.s
  have hn := x2.2.2
  have hL := x1.L
  obtain ⟨pr0, pr1, -⟩ := x1.p
  obtain ⟨l0, -, -, -, l4, -, -, -, l8⟩ := x1.law.1
  rcases body_case h J J' a1 with ⟨j, j1, e1, j2, j3, o1, o2, o3, o4⟩ | ⟨o1, o2⟩
  · have n1 := nI_nm1 (show ld j < 2 ^ 31 by omega)
    have bn := (g2 (ld j) (by omega)).2.2.2.1
    have lt2 : ld j < 2 ^ 31 := by omega
    by_cases z : nm (ld j) = 0
    · obtain ⟨I1, J1, I1', μ, s, u1, u2, u3, u4, u5, u6, u7, u8, u9, u10, u11⟩ := u_pairs h J J'
      have un := u7 (ld j) (by omega)
      have w1 := (x4 (ld j) (by omega)).2
      have w2 := (m3 (ld j) j2).2
      have w3 := (nmI_iff (show nm (ld j) < 2 ^ 31 by omega)).mpr z
      have u5' : I1 145 (ld j) = nmI (μ (ld j)) := by rw [u5 _ (by omega), if_pos z]
      have hx : f_X8_give kX 0 a1 I J R = (if nmI (μ (ld j)) = (-1 : Int32) then some ((-3 : Int32), I1, J1) else if mIx kX (133 + ld j) 1 (nmI (μ (ld j))) then if mIx kX (L + 4) 1 (1 : Int32) then if (I1 (L + 4) ((1 : Int32)).toNatClampNeg) ≤ (I1 (133 + ld j) ((nmI (μ (ld j)))).toNatClampNeg) then (f_X4_lossWithout kX 131 (nI (ld j)) I1 J1 R).bind fun z34 => if mIx kX (L + 4) 1 (2 : Int32) then if (z34.2.1 (L + 4) ((2 : Int32)).toNatClampNeg) ≤ z34.1 then (f_X6_personsOn kX 128 (nI (ld j)) (nmI (μ (ld j))) z34.2.1 z34.2.2 R).bind fun z41 => if mIx kX (L + 4) 1 (3 : Int32) then if (z34.2.1 (L + 4) ((3 : Int32)).toNatClampNeg) ≤ z41 then some ((nmI (μ (ld j))), mup z34.2.1 127 (ld j) (nmI (μ (ld j))), z34.2.2) else some ((-6 : Int32), z34.2.1, z34.2.2) else none else some ((-5 : Int32), z34.2.1, z34.2.2) else none else some ((-4 : Int32), I1, J1) else none else none) := by
        simp only [f_X8_give, q0, if_true, r1, Option.bind_some, q63, o1, n1, if_false, rn, u1, x1.p3, k131, pr1, pr0, x1.2.1, l0, l8, rs0, q128]
        rw [if_pos (mx _ q127 (show ld j < 12 by omega) (by decide)), nI_c lt2, w1, if_pos w3, if_pos (mx _ k145 (show ld j < 12 by omega) (by decide)), u5', if_pos (mx _ k132 (show ld j < 12 by omega) (by decide)), x1.pts (show ld j < 12 by omega)]
        simp only [Option.bind_some]
      have hm : f_X9_give kM 0 a1 I' J' rM = (if nmI (μ (ld j)) = (-1 : Int32) then some ((-3 : Int32), I1') else if mIx kM 8 1 (((12 : Int32) * (nI (ld j))) + (nmI (μ (ld j)))) then if (nI (lw 18)) ≤ (I1' 8 ((((12 : Int32) * (nI (ld j))) + (nmI (μ (ld j))))).toNatClampNeg) then (f_X9_marginOf kM 0 (nI (ld j)) I1' J' rM).bind fun z25 => if (z25.2 14 ((19 : Int32)).toNatClampNeg) ≤ z25.1 then (f_X9_sealed kM 0 (nI (ld j)) (nmI (μ (ld j))) z25.2 J' rM).bind fun z29 => (f_X9_bits kM z29 z25.2 J' rM).bind fun z31 => if (z25.2 14 ((20 : Int32)).toNatClampNeg) ≤ z31 then some ((nmI (μ (ld j))), mup z25.2 7 (ld j) (nmI (μ (ld j)))) else some ((-6 : Int32), z25.2) else some ((-5 : Int32), z25.2) else some ((-4 : Int32), I1') else none) := by
        rw [f_X9_give, if_pos km0, o2, Option.bind_some, imt, rq6, Option.bind_some, rq5, Option.bind_some, if_pos o3, o4, if_pos (mx _ km7 (show ld j < 12 by omega) (by decide)), nI_c lt2, w2, if_pos w3, u2, Option.bind_some, rq9, Option.bind_some, if_pos (mx _ km10 (show ld j < 12 by omega) (by decide)), u6 _ j2, rq7, rq14]
        simp only [Option.bind_some]
        have i18 : mIx kM 14 1 (18 : Int32) := mx 18 km14 (by decide) (by decide)
        have i19 : mIx kM 14 1 (19 : Int32) := mx 19 km14 (by decide) (by decide)
        have i20 : mIx kM 14 1 (20 : Int32) := mx 20 km14 (by decide) (by decide)
        simp only [if_pos i18, if_pos i19, if_pos i20, show ((18 : Int32)).toNatClampNeg = 18 from rfl, m4.same u4 18 (by decide)]
      rw [hx, hm]
      by_cases y : μ (ld j) = 0
      · rw [if_pos ((nmI_iff (by omega)).mpr y), if_pos ((nmI_iff (by omega)).mpr y)]
        exact ⟨-3, I1, J1, I1', rfl, rfl, (h.same u3 u4).s⟩
      · have y' : ¬ nmI (μ (ld j)) = -1 := fun q => y ((nmI_iff (by omega)).mp q)
        rw [if_neg y', if_neg y']
        have ms : nmI (μ (ld j)) = nI (μ (ld j) - 1) := nmI_s y
        have hmm : μ (ld j) - 1 < nl := by omega
        have ml : μ (ld j) - 1 < 2 ^ 31 := by omega
        have ix : (12 : Int32) * nI (ld j) + nI (μ (ld j) - 1) = nI (12 * ld j + (μ (ld j) - 1)) := by rw [show (12 : Int32) = nI 12 from rfl, pk_mul, nI_add]
        have la : ∀ i, i < 4 → I1 (L + 4) i = nI (lw (17 + i)) := (x5.same hL.1 u3).2.2.2
        rw [ms, if_pos (mx _ (KX_pts (ld j) (by omega)) (show μ (ld j) - 1 < 12 by omega) (by decide)), if_pos (show mIx kX (L + 4) 1 (1 : Int32) from ixL x1.law.1 (j := 1) (by decide)), cl1, la 1 (by decide), nI_c ml, u10 _ _ (by omega) (by omega), ix, if_pos (mx _ km8 (show 12 * ld j + (μ (ld j) - 1) < 144 by omega) (by decide)), nI_c (show 12 * ld j + (μ (ld j) - 1) < 2 ^ 31 by omega), u11 _ _ j2 hmm]
        by_cases c1 : nI (lw (17 + 1)) ≤ nI (PP C ld nm lw nl nf (ld j) (μ (ld j) - 1))
        · obtain ⟨v, I2, J2, I2', p1, p2, p3, p4⟩ := u_loss (J1 := J1) (J' := J') x1 g1 g3 (b := ld j) (m := μ (ld j) - 1) j2 hmm hn.2 hn.1 (m1.same u4) (by rw [u5', ms]) (by rw [u6 _ j2, ms]) u8 u9 u10 u11
          have hs2 := h.same (u3.trans p3) (u4.trans p4)
          have la2 : ∀ i, i < 4 → I2 (L + 4) i = nI (lw (17 + i)) := hs2.2.1.2.2.2.2.2.2.2
          have lm2 : ∀ i, i < 21 → I2' 14 i = nI (lw i) := hs2.2.2.2.2.1.2.2.2
          rw [if_pos c1, if_pos c1, p1, p2, Option.bind_some, Option.bind_some]
          dsimp only
          simp only [if_pos (show mIx kX (L + 4) 1 (2 : Int32) from ixL x1.law.1 (j := 2) (by decide)), if_pos (show mIx kX (L + 4) 1 (3 : Int32) from ixL x1.law.1 (j := 3) (by decide)), show ((2 : Int32)).toNatClampNeg = 2 from rfl, la2 2 (by decide), show ((19 : Int32)).toNatClampNeg = 19 from rfl, lm2 19 (by decide), show ((3 : Int32)).toNatClampNeg = 3 from rfl, la2 3 (by decide), show ((20 : Int32)).toNatClampNeg = 20 from rfl, lm2 20 (by decide)]
          by_cases c2 : nI (lw 19) ≤ v
          · rw [if_pos c2, if_pos c2, x_personsOn x1 g4 (show ld j < 12 by omega) (show μ (ld j) - 1 < 12 by omega) I2 J2 hs2.2.2.1, Option.bind_some, m_sealed g4 (show ld j < 12 by omega) (show μ (ld j) - 1 < 12 by omega) I2' J' hs2.2.2.2.2.2.1, Option.bind_some, m_bitsS g4, Option.bind_some]
            by_cases c3 : nI (lw 20) ≤ nI (fb_ct (on sb sm (ld j) (μ (ld j) - 1)) ns)
            · rw [if_pos c3, if_pos c3]
              have hN := hs2.name (b := ld j) (v := μ (ld j)) j2 j3 un.1
              rw [ms] at hN
              exact ⟨nI (μ (ld j) - 1), _, J2, _, rfl, rfl, hN.s⟩
            · rw [if_neg c3, if_neg c3]
              exact ⟨-6, I2, J2, I2', rfl, rfl, hs2.s⟩
          · rw [if_neg c2, if_neg c2]
            exact ⟨-5, I2, J2, I2', rfl, rfl, hs2.s⟩
        · rw [if_neg c1, if_neg c1]
          exact ⟨-4, I1, J1, I1', rfl, rfl, (h.same u3 u4).s⟩
    · have w3 : ¬ nmI (nm (ld j)) = -1 := fun q => z ((nmI_iff (by omega)).mp q)
      refine ⟨-2, I, J, I', ?_, ?_, h.s⟩
      · simp only [f_X8_give, q0, if_true, r1, Option.bind_some, q63, o1, n1, if_false, rn]
        rw [if_pos (mx _ q127 (show ld j < 12 by omega) (by decide)), nI_c lt2, (x4 (ld j) (by omega)).2, if_neg w3]
      · rw [f_X9_give, if_pos km0, o2, Option.bind_some, imt, rq6, Option.bind_some, rq5, Option.bind_some, if_pos o3, o4, if_pos (mx _ km7 (show ld j < 12 by omega) (by decide)), nI_c lt2, (m3 (ld j) j2).2, if_neg w3]
  · refine ⟨-2, I, J, I', ?_, ?_, h.s⟩
    · simp only [f_X8_give, q0, if_true, r1, Option.bind_some, q63, o1]
    · simp only [f_X9_give, km0, if_true, o2, Option.bind_some, imf]
