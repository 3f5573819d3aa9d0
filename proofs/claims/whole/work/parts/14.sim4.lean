theorem m_uf_L129 {C : Nat → Nat → Nat} {ld nm : Nat → Nat} {nl nf x y : Nat} (hCI : CI C nl nf) (hBI : BI ld nm nl nf) (hx : x < nf) (hy : y < nf) (I : mI) (J : mJ) (hH : MH I nl nf) (hC : MC I C nl nf) (hB : MB I ld nm nf) : f_X9_unfit_L129 kM 0 (nI x) (nI y) I J rM 8192 13 = some (cond (sufA (bcS (bC C ld x nf) (bC C ld y nf)) 3 0) (Sum.inl 5) (Sum.inr ())) := by
  have h4 := hH.2.2.2
  have ob : ∀ b t, b < nf → t < 19 → f_X9_ofBody kM 0 (nI b) (nI t) I J rM = some (nI (bC C ld b nf t)) := fun b t hb ht => m_ofBody hCI hBI hb ht I J hH hC hB
  have bl : ∀ b t, t < 22 → bC C ld b nf t < 256 := fun b t ht => bC_lt hCI h4 t ht
  have L98 : ∀ (N e i : Nat), i + e = 16 → 13 ≤ i → e < N → f_X9_unfit_L129 kM 0 (nI x) (nI y) I J rM N (nI i) = some (cond (sufA (fun k => unl (bC C ld x nf k) (bC C ld y nf k)) e i) (Sum.inl 5) (Sum.inr ())) := by
    intro N
    induction N with
    | zero => intro e i e1 e0 e2; omega
    | succ N ih =>
      intro e i e1 e0 e2
      rw [f_X9_unfit_L129]
      by_cases hi : e = 0
      · subst hi
        rw [if_pos (show (16 : Int32) ≤ nI i from nI_le (show 16 ≤ i by omega) (by omega))]
        rfl
      · obtain ⟨e', rfl⟩ : ∃ e', e = e' + 1 := ⟨e - 1, by omega⟩
        have ih' := ih e' (i + 1) (by omega) (by omega) (by omega)
        have b1 := bl x i (by omega)
        have b2 := bl y i (by omega)
        rw [if_neg (show ¬ (16 : Int32) ≤ nI i from nI_ge (show i < 16 by omega) (by decide)), if_pos km0, ob x i hx (by omega), Option.bind_some, ob y i hy (by omega), Option.bind_some, m_areUnlike (by omega) (by omega), Option.bind_some, nI_s1]
        simp only [sufA]
        by_cases z : unl (bC C ld x nf i) (bC C ld y nf i) = true
        · rw [z, if_neg (by decide), Bool.true_or, cond_true]
        · have z : unl (bC C ld x nf i) (bC C ld y nf i) = false := by simpa using z
          rw [z, if_pos mb_f, ih', Bool.false_or]
  have q := L98 8192 3 13 rfl (by decide) (by decide)
  rw [← sufA_shift (fun k => unl (bC C ld x nf k) (bC C ld y nf k)) 13 3 0] at q
  exact q
theorem u_unfit {nl nf : Nat} {C : Nat → Nat → Nat} {ld nm lw : Nat → Nat} {ns : Nat} {sb sm sp : Nat → Nat} {tl : Nat} {tb : Nat → Int32} {L L' : Nat} {I : mI} {R : mR} {I' : mI} (h : SimA nl nf C ld nm lw ns sb sm sp tl tb L L' I R I') (J J' : mJ) (a1 a2 : Int32) : ∃ u I1, f_X8_unfit kX 0 a1 a2 I J R = some (u, I1) ∧ f_X9_unfit kM 0 a1 a2 I' J' rM = some u ∧ sameX I I1 ∧ (u = 0 → ∃ i j, i < nf ∧ j < nf ∧ a1 = nI i ∧ a2 = nI j ∧ ld i ≠ ld j ∧ nm (ld i) = 0 ∧ nm (ld j) = 0) := by
  have h0 := h
  obtain ⟨⟨g1, g2, g3, g4⟩, ⟨x1, x2, x3, x4, x5⟩, h3, h4, ⟨m1, m2, m3, m4⟩, h6, h7, h8⟩ := h0
  obtain ⟨r0, r1, r6, r7, r4, -, rn, -, -⟩ := x1.b
  have hn := x2.2.2
  rcases body_case h J J' a1 with ⟨i, i1, e1, i2, i3, o1, o2, o3, o4⟩ | ⟨o1, o2⟩
  · have n1 := nI_nm1 (show ld i < 2 ^ 31 by omega)
    rcases body_case h J J' a2 with ⟨j, j1, e2, j2, j3, p1, p2, p3, p4⟩ | ⟨p1, p2⟩
    · have n2 := nI_nm1 (show ld j < 2 ^ 31 by omega)
      by_cases e : ld i = ld j
      · refine ⟨1, I, ?_, ?_, sameX.rfl, fun z => absurd z (by decide)⟩
        · simp only [f_X8_unfit, q0, if_true, r1, Option.bind_some, q63, o1, p1, n1, n2, if_false, e]
        · rw [f_X9_unfit, if_pos km0, o2, Option.bind_some, imt, p2, Option.bind_some, imt, rq5, Option.bind_some, if_pos o3, if_pos p3, o4, p4, if_pos (by rw [e])]
      · obtain ⟨I1, s1, s2, s3⟩ := x_gather x1 g1 g2 (Or.inl rfl) (show ld i < 12 by omega) I J x2 x3 x4
        have t1 := sameX.seen (Or.inl rfl) s3
        obtain ⟨I2, u1, u2, u3⟩ := x_gather x1 g1 g2 (Or.inr rfl) (show ld j < 12 by omega) I1 J (x2.same t1) (x3.same t1) (x4.same t1)
        have t2 := t1.trans (sameX.seen (Or.inr rfl) u3)
        have s4 : bodyv I2 170 (bC C ld (ld i) nf) := fun t a b => by
          have := so_le t a
          rw [u3 _ _ (by omega) (by omega) (by omega) (by omega)]
          exact s2 t a b
        have ne : ¬ nI (ld i) = nI (ld j) := fun z => e ((nI_eq (by omega) (by omega)).mp z)
        have ob : ∀ b t, b < nf → t < 19 → f_X9_ofBody kM 0 (nI b) (nI t) I' J' rM = some (nI (bC C ld b nf t)) := fun b t hb ht => m_ofBody g1 g2 hb ht I' J' m1 m2 m3
        have ag := fun b hb g => m_ageOf (b := b) g1 g2 hb g I' J' m1 m2 m3
        have po := fun b (hb : b < 12) => m_piecesOf (C := C) (b := b) g2 hb I' J' m1 (fun f hf => by
          have q := (m2 (12 + f) (by omega)).2.2.2 (by omega)
          rw [show 12 + f - 12 = f by omega] at q
          exact q) m3
        have ml := m_uf_L129 g1 g2 i2 j2 I' J' m1 m2 m3
        have bl : ∀ b t, t < 22 → bC C ld b nf t < 256 := fun b t ht => bC_lt g1 hn.2 t ht
        have xh := x_sheet x1.seen.1 x1.seen.2 (bC_lt1000 g1 hn.2) (bC_lt1000 g1 hn.2) s4 u2 (J := J)
        have xa := x_ageMeets x1.seen.1 x1.seen.2 (bC_lt1000 g1 hn.2) (bC_lt1000 g1 hn.2) s4 u2 (J := J)
        have xs := x_sexUnlike x1.seen.1 x1.seen.2 (bC_lt1000 g1 hn.2 0 (by decide)) (bC_lt1000 g1 hn.2 0 (by decide)) s4 u2 (J := J)
        have y1 : ∀ f, f < 12 → I2 127 f = nmI (nm f) := fun f hf => (x4.same t2 f hf).2
        have y2 : ∀ f, f < nf → I' 7 f = nmI (nm f) := fun f hf => (m3 f hf).2
        have bn1 := (g2 (ld i) (by omega)).2.2.2.1
        have bn2 := (g2 (ld j) (by omega)).2.2.2.1
        generalize hc : bC C ld (ld i) nf = c at *
        generalize hd : bC C ld (ld j) nf = d at *
        have c1 := bl (ld i)
        have d1 := bl (ld j)
        rw [hc] at c1
        rw [hd] at d1
        have head : f_X8_unfit kX 0 a1 a2 I J R = (if (nI (c 21) &&& nI (d 21)) = 0 then if mb (unl (c 0) (d 0)) = 0 then if mb (!decide (min (c 20) (d 20) < max (c 19) (d 19))) = 0 then some ((4 : Int32), I2) else if mb (sufA (bcS c d) 3 0) = 0 then if nmI (nm (ld i)) = (-1 : Int32) then if nmI (nm (ld j)) = (-1 : Int32) then some ((0 : Int32), I2) else some ((6 : Int32), I2) else some ((6 : Int32), I2) else some ((5 : Int32), I2) else some ((3 : Int32), I2) else some ((2 : Int32), I2)) := by
          simp only [f_X8_unfit, q0, if_true, r1, Option.bind_some, q63, o1, p1, n1, n2, if_false, ne, r6, s1, r7, u1, x1.seen.1.1, x1.seen.2.1, s4.s.2.2.2, u2.s.2.2.2, xs, xa, xh, rn]
          rw [if_pos (mx _ q127 (show ld i < 12 by omega) (by decide)), if_pos (mx _ q127 (show ld j < 12 by omega) (by decide)), nI_c (show ld i < 2 ^ 31 by omega), nI_c (show ld j < 2 ^ 31 by omega), y1 _ (by omega), y1 _ (by omega)]
        have tail : f_X9_unfit kM 0 a1 a2 I' J' rM = (if (nI (c 21) &&& nI (d 21)) = 0 then if mb (unl (c 0) (d 0)) = 0 then if mb (!decide (min (c 20) (d 20) < max (c 19) (d 19))) = 0 then some (4 : Int32) else if mb (sufA (bcS c d) 3 0) = 0 then if nmI (nm (ld i)) = (-1 : Int32) then if nmI (nm (ld j)) = (-1 : Int32) then some (0 : Int32) else some (6 : Int32) else some (6 : Int32) else some (5 : Int32) else some (3 : Int32) else some (2 : Int32)) := by
          have oi := ob (ld i)
          have oj := ob (ld j)
          rw [hc] at oi
          rw [hd] at oj
          have pi := po (ld i) (by omega)
          have pj := po (ld j) (by omega)
          rw [hc] at pi
          rw [hd] at pj
          have ai := ag (ld i) i2
          have aj := ag (ld j) j2
          rw [hc] at ai
          rw [hd] at aj
          have := c1 0 (by decide)
          have := d1 0 (by decide)
          have := c1 19 (by decide)
          have := d1 19 (by decide)
          have := c1 20 (by decide)
          have := d1 20 (by decide)
          rw [f_X9_unfit, if_pos km0, o2, Option.bind_some, imt, p2, Option.bind_some, imt, rq5, Option.bind_some, if_pos o3, if_pos p3, o4, p4, if_neg ne, pi, Option.bind_some, pj, Option.bind_some, show f_X9_ofBody kM 0 (nI (ld i)) 0 I' J' rM = _ from oi 0 i2 (by decide), Option.bind_some, show f_X9_ofBody kM 0 (nI (ld j)) 0 I' J' rM = _ from oj 0 j2 (by decide), Option.bind_some, m_areUnlike (by omega) (by omega), Option.bind_some, ai false, Option.bind_some, aj false, Option.bind_some, ai true, Option.bind_some, aj true, Option.bind_some]
          simp only [Bool.false_eq_true, if_false, if_true]
          rw [imax_nI (by omega) (by omega), imin_nI (by omega) (by omega), ml, Option.bind_some, rq6]
          by_cases w1 : (nI (c 21) &&& nI (d 21)) = 0
          · rw [if_pos w1, if_pos w1]
            by_cases w2 : mb (unl (c 0) (d 0)) = 0
            · rw [if_pos w2, if_pos w2]
              by_cases w3 : min (c 20) (d 20) < max (c 19) (d 19)
              · rw [if_neg (nI_ge w3 (by omega)), decide_eq_true w3]
                rfl
              · rw [if_pos (nI_le (by omega) (by omega)), decide_eq_false w3, Bool.not_false, imt]
                cases sufA (bcS c d) 3 0 with
                | true => rw [imt]; rfl
                | false =>
                  rw [imf, cond_false, Sum.elim_inr, Option.bind_some, if_pos (mx _ km7 (show ld i < 12 by omega) (by decide)), if_pos (mx _ km7 (show ld j < 12 by omega) (by decide)), nI_c (show ld i < 2 ^ 31 by omega), nI_c (show ld j < 2 ^ 31 by omega), y2 _ i2, y2 _ j2]
            · rw [if_neg w2, if_neg w2]
          · rw [if_neg w1, if_neg w1]
        rw [head, tail]
        by_cases w1 : (nI (c 21) &&& nI (d 21)) = 0
        · rw [if_pos w1, if_pos w1]
          by_cases w2 : mb (unl (c 0) (d 0)) = 0
          · rw [if_pos w2, if_pos w2]
            by_cases w3 : mb (!decide (min (c 20) (d 20) < max (c 19) (d 19))) = 0
            · rw [if_pos w3, if_pos w3]
              exact ⟨4, I2, rfl, rfl, t2, fun z => absurd z (by decide)⟩
            · rw [if_neg w3, if_neg w3]
              by_cases w4 : mb (sufA (bcS c d) 3 0) = 0
              · rw [if_pos w4, if_pos w4]
                by_cases w5 : nmI (nm (ld i)) = -1
                · rw [if_pos w5, if_pos w5]
                  by_cases w6 : nmI (nm (ld j)) = -1
                  · rw [if_pos w6, if_pos w6]
                    exact ⟨0, I2, rfl, rfl, t2, fun _ => ⟨i, j, i1, j1, e1, e2, e, (nmI_iff (by omega)).mp w5, (nmI_iff (by omega)).mp w6⟩⟩
                  · rw [if_neg w6, if_neg w6]
                    exact ⟨6, I2, rfl, rfl, t2, fun z => absurd z (by decide)⟩
                · rw [if_neg w5, if_neg w5]
                  exact ⟨6, I2, rfl, rfl, t2, fun z => absurd z (by decide)⟩
              · rw [if_neg w4, if_neg w4]
                exact ⟨5, I2, rfl, rfl, t2, fun z => absurd z (by decide)⟩
          · rw [if_neg w2, if_neg w2]
            exact ⟨3, I2, rfl, rfl, t2, fun z => absurd z (by decide)⟩
        · rw [if_neg w1, if_neg w1]
          exact ⟨2, I2, rfl, rfl, t2, fun z => absurd z (by decide)⟩
    · refine ⟨1, I, ?_, ?_, sameX.rfl, fun z => absurd z (by decide)⟩
      · simp only [f_X8_unfit, q0, if_true, r1, Option.bind_some, q63, o1, p1, n1, if_false]
      · simp only [f_X9_unfit, km0, if_true, o2, p2, Option.bind_some, imt, imf]
  · refine ⟨1, I, ?_, ?_, sameX.rfl, fun z => absurd z (by decide)⟩
    · rcases body_case h J J' a2 with ⟨j, j1, e2, j2, j3, p1, p2, p3, p4⟩ | ⟨p1, p2⟩
      · simp only [f_X8_unfit, q0, if_true, r1, Option.bind_some, q63, o1, p1]
      · simp only [f_X8_unfit, q0, if_true, r1, Option.bind_some, q63, o1, p1]
    · simp only [f_X9_unfit, km0, if_true, o2, Option.bind_some, imf]
theorem s_unfit {I : mI} {R : mR} {I' : mI} (h : Sim I R I') (J J' : mJ) (a1 a2 : Int32) : ∃ v I1, f_X8_unfit kX 0 a1 a2 I J R = some (v, I1) ∧ f_X9_unfit kM 0 a1 a2 I' J' rM = some v ∧ Sim I1 R I' := by
  obtain ⟨nl, nf, C, ld, nm, lw, ns, sb, sm, sp, tl, tb, L, L', h⟩ := h
  obtain ⟨u, I1, o1, o2, o3, -⟩ := u_unfit h J J' a1 a2
  exact ⟨u, I1, o1, o2, (h.same o3 sameM.rfl).s⟩
def ldj (ld : Nat → Nat) (lo hi : Nat) : Nat → Nat := fun k => if ld k = hi then lo else ld k
theorem x_unite {R : mR} {L L' : Nat} (hR : XR R L L') {ld nm : Nat → Nat} {nl nf lo hi : Nat} (hBI : BI ld nm nl nf) (hh : hi < 12) (I : mI) (J : mJ) (hH : XH I nl nf) (hB : XB I ld nm) : ∀ (N k : Nat), k ≤ nf → nf - k < N → f_X0_unite_L16 kX 63 (nI lo) (nI hi) J R N (nI k) (rowU I 126 0 k (fun k => nI (ldj ld lo hi k))) = some (rowU I 126 0 nf (fun k => nI (ldj ld lo hi k))) := by
  obtain ⟨-, -, -, -, r4, r5, -, r7, -⟩ := hR.b
  have hn := hH.2.2
  intro N
  induction N with
  | zero => intro k h1 h2; omega
  | succ N ih =>
    intro k h1 h2
    rw [f_X0_unite_L16, if_pos q63, r4, Option.bind_some, if_pos q64, rowU_ne (by decide), hH.2.1]
    by_cases hk : k = nf
    · subst hk
      rw [if_pos (nI_le (Nat.le_refl _) (by omega))]
    · have hk : k < nf := by omega
      have ih' := ih (k + 1) (by omega) (by omega)
      have b1 := (hBI k (by omega)).1
      rw [if_neg (nI_ge hk (by omega)), r5, Option.bind_some, if_pos (mx k q126 (by omega) (by decide)), nI_c (show k < 2 ^ 31 by omega), rowU_out (by omega), (hB k (by omega)).1, nI_s1]
      by_cases hl : ld k = hi
      · rw [if_pos (by rw [hl]), Option.bind_some, rowU_s (Nat.zero_le k) (by unfold ldj; rw [if_pos hl])]
        exact ih'
      · rw [if_neg (fun z => hl ((nI_eq (by omega) (by omega)).mp z)), rowU_k (Nat.zero_le k) (by unfold ldj; rw [if_neg hl]; exact (hB k (by omega)).1.symm)]
        exact ih'
theorem m_join_L {ld nm : Nat → Nat} {nl nf lo hi : Nat} (hBI : BI ld nm nl nf) (hh : hi < 12) (I : mI) (J : mJ) (hH : MH I nl nf) (hB : MB I ld nm nf) : ∀ (N k : Nat), k ≤ nf → nf - k < N → f_X9_join_L47 kM 0 (nI lo) (nI hi) J rM N (nI k) (rowU I 6 0 k (fun k => nI (ldj ld lo hi k))) = some (rowU I 6 0 nf (fun k => nI (ldj ld lo hi k))) := by
  have hn := hH.2.2
  intro N
  induction N with
  | zero => intro k h1 h2; omega
  | succ N ih =>
    intro k h1 h2
    rw [f_X9_join_L47, if_pos km0, rq0, Option.bind_some, if_pos ix11, cl1, rowU_ne (by decide), hH.2.1]
    by_cases hk : k = nf
    · subst hk
      rw [if_pos (nI_le (Nat.le_refl _) (by omega))]
    · have hk : k < nf := by omega
      have ih' := ih (k + 1) (by omega) (by omega)
      have b1 := (hBI k (by omega)).1
      rw [if_neg (nI_ge hk (by omega)), rq5, Option.bind_some, if_pos (mx k km6 (by omega) (by decide)), nI_c (show k < 2 ^ 31 by omega), rowU_out (by omega), (hB k (by omega)).1, nI_s1]
      by_cases hl : ld k = hi
      · rw [if_pos (by rw [hl]), Option.bind_some, rowU_s (Nat.zero_le k) (by unfold ldj; rw [if_pos hl])]
        exact ih'
      · rw [if_neg (fun z => hl ((nI_eq (by omega) (by omega)).mp z)), rowU_k (Nat.zero_le k) (by unfold ldj; rw [if_neg hl]; exact (hB k (by omega)).1.symm)]
        exact ih'
theorem BI.join {ld nm : Nat → Nat} {nl nf lo hi : Nat} (h : BI ld nm nl nf) (hn : nf ≤ 12) (hl : lo < hi) (hh : hi < nf) (e1 : ld lo = lo) (e2 : ld hi = hi) (e3 : nm hi = 0) : BI (ldj ld lo hi) nm nl nf := fun f hf => by
  obtain ⟨b1, b2, b3, b4, b5⟩ := h f hf
  unfold ldj
  by_cases e : ld f = hi
  · rw [if_pos e, e1, if_neg (by omega)]
    refine ⟨by omega, rfl, fun q => ?_, b4, fun q => ?_⟩
    · have := (b3 q).1; omega
    · have := b5 q
      rw [e] at this
      subst this
      exact absurd e3 q
  · rw [if_neg e, b2, if_neg e]
    exact ⟨b1, rfl, b3, b4, b5⟩
theorem s_join {I : mI} {R : mR} {I' : mI} (h : Sim I R I') (J J' : mJ) (a1 a2 : Int32) : ∃ v I1 I1', f_X8_join kX 0 a1 a2 I J R = some (v, I1) ∧ f_X9_join kM 0 a1 a2 I' J' rM = some (v, I1') ∧ Sim I1 R I1' := by
  obtain ⟨nl, nf, C, ld, nm, lw, ns, sb, sm, sp, tl, tb, L, L', h⟩ := h
  obtain ⟨u, I1, o1, o2, o3, o4⟩ := u_unfit h J J' a1 a2
  have h1 := h.same o3 sameM.rfl
  by_cases hu : u = 0
  · obtain ⟨i, j, i1, j1, rfl, rfl, e, n1, n2⟩ := o4 hu
    have h0 := h1
    obtain ⟨⟨g1, g2, g3, g4⟩, ⟨x1, x2, x3, x4, x5⟩, h3, h4, ⟨m1, m2, m3, m4⟩, h6, h7, h8⟩ := h0
    obtain ⟨r0, r1, -, -, -, -, -, -, -⟩ := x1.b
    have hn := x2.2.2
    have hL := x1.L
    have bi := g2 i (by omega)
    have bj := g2 j (by omega)
    have hi : max (ld i) (ld j) < nf := by omega
    have L1 := x_unite (lo := min (ld i) (ld j)) (hi := max (ld i) (ld j)) x1 g2 (by omega) I1 J x2 x4 8192 0 (by omega) (by omega)
    have L2 := m_join_L (lo := min (ld i) (ld j)) (hi := max (ld i) (ld j)) g2 (by omega) I' J' m1 m3 8192 0 (by omega) (by omega)
    rw [rowU_0] at L1 L2
    have el : ld (min (ld i) (ld j)) = min (ld i) (ld j) := by
      rcases Nat.le_total (ld i) (ld j) with q | q
      · rw [Nat.min_eq_left q]; exact bi.2.1
      · rw [Nat.min_eq_right q]; exact bj.2.1
    have eh : ld (max (ld i) (ld j)) = max (ld i) (ld j) := by
      rcases Nat.le_total (ld i) (ld j) with q | q
      · rw [Nat.max_eq_right q]; exact bj.2.1
      · rw [Nat.max_eq_left q]; exact bi.2.1
    have en : nm (max (ld i) (ld j)) = 0 := by
      rcases Nat.le_total (ld i) (ld j) with q | q
      · rw [Nat.max_eq_right q]; exact n2
      · rw [Nat.max_eq_left q]; exact n1
    refine ⟨true, rowU I1 126 0 nf (fun k => nI (ldj ld (min (ld i) (ld j)) (max (ld i) (ld j)) k)), rowU I' 6 0 nf (fun k => nI (ldj ld (min (ld i) (ld j)) (max (ld i) (ld j)) k)), ?_, ?_, SimA.s (nl := nl) (nf := nf) (C := C) (ld := ldj ld (min (ld i) (ld j)) (max (ld i) (ld j))) (nm := nm) (lw := lw) (ns := ns) (sb := sb) (sm := sm) (sp := sp) (tl := tl) (tb := tb) (L := L) (L' := L') ⟨⟨g1, g2.join hn.2 (by omega) hi el eh en, g3, g4⟩, ⟨x1, x2.cg (fun a k h => rowU_ne (by omega)), x3.cg (fun a k h => rowU_ne (by omega)), fun f hf => ⟨?_, by rw [rowU_ne (by omega)]; exact (x4 f hf).2⟩, x5.cg (fun a k h => rowU_ne (by omega))⟩, h3.cg (fun a k h => rowU_ne (by omega)), h4.cg (fun a k h => rowU_ne (by omega)), ⟨m1.cg (fun k => rowU_ne (by omega)), m2.cg (fun a k h => rowU_ne (by omega)), fun f hf => ⟨by rw [rowU_in (by omega) hf], by rw [rowU_ne (by omega)]; exact (m3 f hf).2⟩, m4.cg (fun k _ => rowU_ne (by omega))⟩, h6.cg (rowU_ne (by omega)) (fun a k h => rowU_ne (by omega)), h7.cg (rowU_ne (by omega)) (fun k => rowU_ne (by omega)), by rw [rowU_ne (by omega), rowU_ne (by omega)]; exact h8⟩⟩
    · rw [f_X8_join, if_pos q0, o1, Option.bind_some, if_pos hu, r1, Option.bind_some, if_pos q63, x_leader_yes x1 x2 x4 i1, Option.bind_some, x_leader_yes x1 x2 x4 j1, Option.bind_some, f_X0_unite, imin_nI (by omega) (by omega), imax_nI (by omega) (by omega), show f_X0_unite_L16 kX 63 _ _ J R 8192 0 I1 = _ from L1, Option.bind_some, Option.bind_some]
    · rw [f_X9_join, if_pos km0, o2, Option.bind_some, if_pos hu, rq5, Option.bind_some, if_pos (mx i km6 (by omega) (by decide)), if_pos (mx j km6 (by omega) (by decide)), Option.bind_some, Option.bind_some, nI_c (show i < 2 ^ 31 by omega), nI_c (show j < 2 ^ 31 by omega), (m3 i i1).1, (m3 j j1).1, imin_nI (by omega) (by omega), imax_nI (by omega) (by omega), show f_X9_join_L47 kM 0 _ _ J' rM 8192 0 I' = _ from L2, Option.bind_some]
    · by_cases q : f < nf
      · rw [rowU_in (by omega) q]
      · rw [rowU_out (by omega), (x4 f hf).1]
        have := ((g2 f hf).2.2.1 (by omega)).1
        unfold ldj
        rw [if_neg (by omega)]
  · refine ⟨false, I1, I', ?_, ?_, h1.s⟩
    · simp only [f_X8_join, q0, if_true, o1, Option.bind_some, hu, if_false]
    · simp only [f_X9_join, km0, if_true, o2, Option.bind_some, hu, if_false]
