theorem so_t : ∀ k, k < 8 → so (1 + k) = 1 ∧ si (1 + k) = k := by decide
theorem so_m : ∀ k, k < 4 → so (9 + k) = 2 ∧ si (9 + k) = k := by decide
theorem so_h : ∀ k, k < 3 → so (13 + k) = 3 ∧ si (13 + k) = k := by decide
theorem so_p : ∀ k, k < 3 → so (16 + k) = 4 ∧ si (16 + k) = k := by decide
theorem nI_plus (a b : Nat) : nI a + nI b = nI (a + b) := nI_add a b
theorem s_age {I : mI} {R : mR} {I' : mI} (h : Sim I R I') (J J' : mJ) (a1 a2 a3 a4 : Int32) : ∃ v I1 I1', f_X8_age kX 0 a1 a2 a3 a4 I J R = some (v, I1) ∧ f_X9_age kM 0 a1 a2 a3 a4 I' J' rM = some (v, I1') ∧ Sim I1 R I1' := by
  obtain ⟨nl, nf, C, ld, nm, lw, ns, sb, sm, sp, tl, tb, L, L', h⟩ := h
  rcases card_case h J J' a1 a2 with ⟨s, j, s1, s2, s3, rfl, rfl, o1, o2⟩ | ⟨o1, o2⟩
  · by_cases z1 : a3 < 0
    · refine ⟨false, _, _, ?_, ?_, h.s⟩
      · simp only [f_X8_age, q0, if_true, o1, Option.bind_some, mON_s, z1]
      · simp only [f_X9_age, km0, if_true, o2, Option.bind_some, imt, z1]
    · by_cases z2 : a4 < a3
      · refine ⟨false, _, _, ?_, ?_, h.s⟩
        · simp only [f_X8_age, q0, if_true, o1, Option.bind_some, mON_s, z1, if_false, z2]
        · simp only [f_X9_age, km0, if_true, o2, Option.bind_some, imt, z1, if_false, z2]
      · by_cases z3 : a4 ≤ 120
        · obtain ⟨v, v1, rfl⟩ := asN z1
          have z4 : ¬ a4 < 0 := fun q => z2 (by
            rw [Int32.lt_iff_toInt_lt] at q ⊢
            rw [nI_toInt v1]
            have : (0 : Int32).toInt = 0 := rfl
            omega)
          obtain ⟨w, w1, rfl⟩ := asN z4
          have y2 : v ≤ w := by rw [nI_lti w1 v1] at z2; omega
          have y3 : w ≤ 120 := (nI_lei w1 (show 120 < 2 ^ 31 by decide)).mp z3
          have ix : (12 : Int32) * nI s + nI j = nI (12 * s + j) := by rw [show (12 : Int32) = nI 12 from rfl, pk_mul, nI_add]
          refine ⟨true, _, _, ?_, ?_, ((h.put (t := 19) (v := v) s2 (by decide) (by omega) ⟨by omega, by omega, by omega, by omega, by omega, by omega, by omega⟩).put (t := 20) (v := w) s2 (by decide) (by omega) ⟨by omega, by omega, by omega, by omega, by omega, by omega, by omega⟩).s⟩
          · simp only [f_X8_age, q0, if_true, o1, Option.bind_some, mON_s, z1, if_false, z2, z3, s2.k]
            rfl
          · rw [f_X9_age, if_pos km0, o2, Option.bind_some, imt, if_neg z1, if_neg z2, if_pos z3, rq2, Option.bind_some, ix, if_pos (mx _ km3 (show 12 * s + j < 24 by omega) (by decide)), Option.bind_some, rq3, Option.bind_some, if_pos (mx _ km4 (show 12 * s + j < 24 by omega) (by decide)), Option.bind_some, nI_c (show 12 * s + j < 2 ^ 31 by omega)]
            rfl
        · refine ⟨false, _, _, ?_, ?_, h.s⟩
          · simp only [f_X8_age, q0, if_true, o1, Option.bind_some, mON_s, z1, if_false, z2, z3]
          · simp only [f_X9_age, km0, if_true, o2, Option.bind_some, imt, z1, if_false, z2, z3]
  · refine ⟨false, _, _, ?_, ?_, h.s⟩
    · simp only [f_X8_age, q0, if_true, o1, Option.bind_some, mON_n]
    · simp only [f_X9_age, km0, if_true, o2, Option.bind_some, imf]
theorem s_tooth {I : mI} {R : mR} {I' : mI} (h : Sim I R I') (J J' : mJ) (a1 a2 a3 a4 : Int32) : ∃ v I1 I1', f_X8_tooth kX 0 a1 a2 a3 a4 I J R = some (v, I1) ∧ f_X9_tooth kM 0 a1 a2 a3 a4 I' J' rM = some (v, I1') ∧ Sim I1 R I1' := by
  obtain ⟨nl, nf, C, ld, nm, lw, ns, sb, sm, sp, tl, tb, L, L', h⟩ := h
  rcases card_case h J J' a1 a2 with ⟨s, j, s1, s2, s3, rfl, rfl, o1, o2⟩ | ⟨o1, o2⟩
  · by_cases z : (!decide (a3 < 0) && !decide (7 < a3)) = true
    · by_cases y : (!decide (a4 < 0) && !decide (3 < a4)) = true
      · obtain ⟨k, k1, k2, rfl⟩ := inr (lo := 0) (hi := 7) (by decide) (by decide) z
        obtain ⟨v, v1, v2, rfl⟩ := inr (lo := 0) (hi := 3) (by decide) (by decide) y
        obtain ⟨c0, c1, -, -, -, c4, -, -, -⟩ := h.2.1.1.card s2.lt
        obtain ⟨t1, t2⟩ := so_t k (by omega)
        refine ⟨true, _, _, ?_, ?_, (h.put (t := 1 + k) (v := v) s2 (by omega) (by omega) ⟨by omega, by omega, by omega, by omega, by omega, by omega, by omega⟩).s⟩
        · simp only [f_X8_tooth, q0, if_true, o1, Option.bind_some, mON_s, x_win, z, y, imt, s2.k, c4, t1, t2]
          rw [if_pos (mx k c1 (by omega) (by decide)), nI_c (show k < 2 ^ 31 by omega)]
        · simp only [f_X9_tooth, km0, if_true, o2, Option.bind_some, m_isIn, z, y, imt]
          rw [show (1 : Int32) = nI 1 from rfl, nI_plus, m_mends s1 s3 (show 1 + k < 19 by omega) _ I' J', Option.bind_some, imt]
      · have y : (!decide (a4 < 0) && !decide (3 < a4)) = false := by simpa using y
        refine ⟨false, _, _, ?_, ?_, h.s⟩
        · simp only [f_X8_tooth, q0, if_true, o1, Option.bind_some, mON_s, x_win, z, y, imt, imf]
        · simp only [f_X9_tooth, km0, if_true, o2, Option.bind_some, m_isIn, z, y, imt, imf]
    · have z : (!decide (a3 < 0) && !decide (7 < a3)) = false := by simpa using z
      refine ⟨false, _, _, ?_, ?_, h.s⟩
      · simp only [f_X8_tooth, q0, if_true, o1, Option.bind_some, mON_s, x_win, z, imf]
      · simp only [f_X9_tooth, km0, if_true, o2, Option.bind_some, m_isIn, z, imt, imf]
  · refine ⟨false, _, _, ?_, ?_, h.s⟩
    · simp only [f_X8_tooth, q0, if_true, o1, Option.bind_some, mON_n]
    · simp only [f_X9_tooth, km0, if_true, o2, Option.bind_some, imf]
theorem s_mark {I : mI} {R : mR} {I' : mI} (h : Sim I R I') (J J' : mJ) (a1 a2 a3 a4 : Int32) : ∃ v I1 I1', f_X8_mark kX 0 a1 a2 a3 a4 I J R = some (v, I1) ∧ f_X9_mark kM 0 a1 a2 a3 a4 I' J' rM = some (v, I1') ∧ Sim I1 R I1' := by
  obtain ⟨nl, nf, C, ld, nm, lw, ns, sb, sm, sp, tl, tb, L, L', h⟩ := h
  rcases card_case h J J' a1 a2 with ⟨s, j, s1, s2, s3, rfl, rfl, o1, o2⟩ | ⟨o1, o2⟩
  · by_cases z : (!decide (a3 < 0) && !decide (3 < a3)) = true
    · by_cases y : (!decide (a4 < 0) && !decide (9 < a4)) = true
      · obtain ⟨k, k1, k2, rfl⟩ := inr (lo := 0) (hi := 3) (by decide) (by decide) z
        obtain ⟨v, v1, v2, rfl⟩ := inr (lo := 0) (hi := 9) (by decide) (by decide) y
        obtain ⟨c0, -, c2, -, -, -, c5, -, -⟩ := h.2.1.1.card s2.lt
        obtain ⟨t1, t2⟩ := so_m k (by omega)
        refine ⟨true, _, _, ?_, ?_, (h.put (t := 9 + k) (v := v) s2 (by omega) (by omega) ⟨by omega, by omega, by omega, by omega, by omega, by omega, by omega⟩).s⟩
        · simp only [f_X8_mark, q0, if_true, o1, Option.bind_some, mON_s, x_win, z, y, imt, s2.k, c5, t1, t2]
          rw [if_pos (mx k c2 (by omega) (by decide)), nI_c (show k < 2 ^ 31 by omega)]
        · simp only [f_X9_mark, km0, if_true, o2, Option.bind_some, m_isIn, z, y, imt]
          rw [show (9 : Int32) = nI 9 from rfl, nI_plus, m_mends s1 s3 (show 9 + k < 19 by omega) _ I' J', Option.bind_some, imt]
      · have y : (!decide (a4 < 0) && !decide (9 < a4)) = false := by simpa using y
        refine ⟨false, _, _, ?_, ?_, h.s⟩
        · simp only [f_X8_mark, q0, if_true, o1, Option.bind_some, mON_s, x_win, z, y, imt, imf]
        · simp only [f_X9_mark, km0, if_true, o2, Option.bind_some, m_isIn, z, y, imt, imf]
    · have z : (!decide (a3 < 0) && !decide (3 < a3)) = false := by simpa using z
      refine ⟨false, _, _, ?_, ?_, h.s⟩
      · simp only [f_X8_mark, q0, if_true, o1, Option.bind_some, mON_s, x_win, z, imf]
      · simp only [f_X9_mark, km0, if_true, o2, Option.bind_some, m_isIn, z, imt, imf]
  · refine ⟨false, _, _, ?_, ?_, h.s⟩
    · simp only [f_X8_mark, q0, if_true, o1, Option.bind_some, mON_n]
    · simp only [f_X9_mark, km0, if_true, o2, Option.bind_some, imf]
theorem sh_ab {a b : Nat} (a1 : 1 ≤ a) (a2 : a ≤ 9) (b1 : 1 ≤ b) (b2 : b ≤ 9) : sh (10 * min a b + max a b) := Or.inr (by omega)
theorem ab_I {a b : Nat} (a2 : a ≤ 9) (b2 : b ≤ 9) : (10 : Int32) * imin (nI a) (nI b) + imax (nI a) (nI b) = nI (10 * min a b + max a b) := by
  rw [imin_nI (by omega) (by omega), imax_nI (by omega) (by omega), show (10 : Int32) = nI 10 from rfl, pk_mul, nI_add]
theorem s_tissue {I : mI} {R : mR} {I' : mI} (h : Sim I R I') (J J' : mJ) (a1 a2 a3 a4 a5 : Int32) : ∃ v I1 I1', f_X8_tissue kX 0 a1 a2 a3 a4 a5 I J R = some (v, I1) ∧ f_X9_tissue kM 0 a1 a2 a3 a4 a5 I' J' rM = some (v, I1') ∧ Sim I1 R I1' := by
  obtain ⟨nl, nf, C, ld, nm, lw, ns, sb, sm, sp, tl, tb, L, L', h⟩ := h
  by_cases e : a1 = 2
  · rcases card_case h J J' 0 a2 with ⟨s, j, s1, s2, s3, es, rfl, o1, o2⟩ | ⟨o1, o2⟩
    · have es : s = 0 := by
        have := (nI_z (show s < 2 ^ 31 by omega)).mp es.symm
        exact this
      subst es
      by_cases z : (!decide (a3 < 0) && !decide (2 < a3)) = true
      · obtain ⟨k, k1, k2, rfl⟩ := inr (lo := 0) (hi := 2) (by decide) (by decide) z
        obtain ⟨c0, -, -, -, c4, -, -, -, c8⟩ := h.2.1.1.card s2.lt
        obtain ⟨t1, t2⟩ := so_p k (by omega)
        have i1 := mx k c4 (by omega) (by decide)
        have i2 := nI_c (show k < 2 ^ 31 by omega)
        have mm := fun v => m_mends (s := 0) (by decide) s3 (show 16 + k < 19 by omega) v I' J'
        have i3 : (16 : Int32) + nI k = nI (16 + k) := nI_plus 16 k
        by_cases z0 : a4 = 0
        · refine ⟨true, _, _, ?_, ?_, (h.put (t := 16 + k) (v := 0) s2 (by omega) (by omega) ⟨by omega, by omega, by omega, fun _ _ => Or.inl rfl, by omega, by omega, by omega⟩).s⟩
          · simp only [f_X8_tissue, e, q0, if_true, o1, Option.bind_some, mON_s, x_win, z, imt, z0, s2.k, c8, t1, t2, i2]
            rw [if_pos i1]
            rfl
          · simp only [f_X9_tissue, e, km0, if_true, o2, Option.bind_some, m_isIn, z, imt, z0, i3]
            rw [show f_X9_mends kM 0 0 (nI j) (nI (16 + k)) 0 I' J' rM = _ from mm 0, Option.bind_some]
            rfl
        · by_cases y1 : (!decide (a4 < 1) && !decide (9 < a4)) = true
          · by_cases y2 : (!decide (a5 < 1) && !decide (9 < a5)) = true
            · obtain ⟨a, p1, p2, rfl⟩ := inr (lo := 1) (hi := 9) (by decide) (by decide) y1
              obtain ⟨b, p3, p4, rfl⟩ := inr (lo := 1) (hi := 9) (by decide) (by decide) y2
              refine ⟨true, _, _, ?_, ?_, (h.put (t := 16 + k) (v := 10 * min a b + max a b) s2 (by omega) (by omega) ⟨by omega, by omega, by omega, fun _ _ => sh_ab p1 p2 p3 p4, by omega, by omega, by omega⟩).s⟩
              · simp only [f_X8_tissue, e, q0, if_true, o1, Option.bind_some, mON_s, x_win, z, imt, z0, if_false, y1, y2, s2.k, c8, t1, t2, i2, ab_I p2 p4]
                rw [if_pos i1]
              · simp only [f_X9_tissue, e, km0, if_true, o2, Option.bind_some, m_isIn, z, imt, z0, if_false, y1, y2, i3, ab_I p2 p4]
                rw [show f_X9_mends kM 0 0 (nI j) (nI (16 + k)) _ I' J' rM = _ from mm _, Option.bind_some]
            · have y2 : (!decide (a5 < 1) && !decide (9 < a5)) = false := by simpa using y2
              refine ⟨false, _, _, ?_, ?_, h.s⟩
              · simp only [f_X8_tissue, e, q0, if_true, o1, Option.bind_some, mON_s, x_win, z, imt, z0, if_false, y1, y2, imf]
              · simp only [f_X9_tissue, e, km0, if_true, o2, Option.bind_some, m_isIn, z, imt, z0, if_false, y1, y2, imf]
          · have y1 : (!decide (a4 < 1) && !decide (9 < a4)) = false := by simpa using y1
            refine ⟨false, _, _, ?_, ?_, h.s⟩
            · simp only [f_X8_tissue, e, q0, if_true, o1, Option.bind_some, mON_s, x_win, z, imt, z0, if_false, y1, imf]
            · simp only [f_X9_tissue, e, km0, if_true, o2, Option.bind_some, m_isIn, z, imt, z0, if_false, y1, imf]
      · have z : (!decide (a3 < 0) && !decide (2 < a3)) = false := by simpa using z
        refine ⟨false, _, _, ?_, ?_, h.s⟩
        · simp only [f_X8_tissue, e, q0, if_true, o1, Option.bind_some, mON_s, x_win, z, imf]
        · simp only [f_X9_tissue, e, km0, if_true, o2, Option.bind_some, m_isIn, z, imt, imf]
    · refine ⟨false, _, _, ?_, ?_, h.s⟩
      · simp only [f_X8_tissue, e, q0, if_true, o1, Option.bind_some, mON_n]
      · simp only [f_X9_tissue, e, km0, if_true, o2, Option.bind_some, imf]
  · rcases card_case h J J' a1 a2 with ⟨s, j, s1, s2, s3, rfl, rfl, o1, o2⟩ | ⟨o1, o2⟩
    · by_cases z : (!decide (a3 < 0) && !decide (2 < a3)) = true
      · obtain ⟨k, k1, k2, rfl⟩ := inr (lo := 0) (hi := 2) (by decide) (by decide) z
        obtain ⟨c0, -, -, c3, -, -, -, c7, -⟩ := h.2.1.1.card s2.lt
        obtain ⟨t1, t2⟩ := so_h k (by omega)
        have i1 := mx k c3 (by omega) (by decide)
        have i2 := nI_c (show k < 2 ^ 31 by omega)
        have mm := fun v => m_mends s1 s3 (show 13 + k < 19 by omega) v I' J'
        have i3 : (13 : Int32) + nI k = nI (13 + k) := nI_plus 13 k
        by_cases z0 : a4 = 0
        · refine ⟨true, _, _, ?_, ?_, (h.put (t := 13 + k) (v := 0) s2 (by omega) (by omega) ⟨by omega, by omega, by omega, fun _ _ => Or.inl rfl, by omega, by omega, by omega⟩).s⟩
          · simp only [f_X8_tissue, e, if_false, q0, if_true, o1, Option.bind_some, mON_s, x_win, z, imt, z0, s2.k, c7, t1, t2, i2]
            rw [if_pos i1]
            rfl
          · simp only [f_X9_tissue, e, if_false, km0, if_true, o2, Option.bind_some, m_isIn, z, imt, z0, i3]
            rw [show f_X9_mends kM 0 (nI s) (nI j) (nI (13 + k)) 0 I' J' rM = _ from mm 0, Option.bind_some]
            rfl
        · by_cases y1 : (!decide (a4 < 1) && !decide (9 < a4)) = true
          · by_cases y2 : (!decide (a5 < 1) && !decide (9 < a5)) = true
            · obtain ⟨a, p1, p2, rfl⟩ := inr (lo := 1) (hi := 9) (by decide) (by decide) y1
              obtain ⟨b, p3, p4, rfl⟩ := inr (lo := 1) (hi := 9) (by decide) (by decide) y2
              refine ⟨true, _, _, ?_, ?_, (h.put (t := 13 + k) (v := 10 * min a b + max a b) s2 (by omega) (by omega) ⟨by omega, by omega, by omega, fun _ _ => sh_ab p1 p2 p3 p4, by omega, by omega, by omega⟩).s⟩
              · simp only [f_X8_tissue, e, q0, if_true, o1, Option.bind_some, mON_s, x_win, z, imt, z0, if_false, y1, y2, s2.k, c7, t1, t2, i2, ab_I p2 p4]
                rw [if_pos i1]
              · simp only [f_X9_tissue, e, km0, if_true, o2, Option.bind_some, m_isIn, z, imt, z0, if_false, y1, y2, i3, ab_I p2 p4]
                rw [mm _, Option.bind_some]
            · have y2 : (!decide (a5 < 1) && !decide (9 < a5)) = false := by simpa using y2
              refine ⟨false, _, _, ?_, ?_, h.s⟩
              · simp only [f_X8_tissue, e, q0, if_true, o1, Option.bind_some, mON_s, x_win, z, imt, z0, if_false, y1, y2, imf]
              · simp only [f_X9_tissue, e, km0, if_true, o2, Option.bind_some, m_isIn, z, imt, z0, if_false, y1, y2, imf]
          · have y1 : (!decide (a4 < 1) && !decide (9 < a4)) = false := by simpa using y1
            refine ⟨false, _, _, ?_, ?_, h.s⟩
            · simp only [f_X8_tissue, e, q0, if_true, o1, Option.bind_some, mON_s, x_win, z, imt, z0, if_false, y1, imf]
            · simp only [f_X9_tissue, e, km0, if_true, o2, Option.bind_some, m_isIn, z, imt, z0, if_false, y1, imf]
      · have z : (!decide (a3 < 0) && !decide (2 < a3)) = false := by simpa using z
        refine ⟨false, _, _, ?_, ?_, h.s⟩
        · simp only [f_X8_tissue, e, if_false, q0, if_true, o1, Option.bind_some, mON_s, x_win, z, imf]
        · simp only [f_X9_tissue, e, if_false, km0, if_true, o2, Option.bind_some, m_isIn, z, imt, imf]
    · refine ⟨false, _, _, ?_, ?_, h.s⟩
      · simp only [f_X8_tissue, e, if_false, q0, if_true, o1, Option.bind_some, mON_n]
      · simp only [f_X9_tissue, e, if_false, km0, if_true, o2, Option.bind_some, imf]
theorem mup_twice {I : mI} {a k : Nat} {x y : Int32} : mup (mup I a k x) a k y = mup I a k y := by
  funext i j
  by_cases e : i = a ∧ j = k
  · rw [e.1, e.2, mup_eq, mup_eq]
  · rw [mup_ne _ _ e, mup_ne _ _ e, mup_ne _ _ e]
theorem mup_back {I : mI} {a k : Nat} {x : Int32} : mup (mup I a k x) a k (I a k) = I := by
  funext i j
  by_cases e : i = a ∧ j = k
  · rw [e.1, e.2, mup_eq]
  · rw [mup_ne _ _ e, mup_ne _ _ e]
theorem x_beside {R : mR} {L L' : Nat} (hR : XR R L L') {C : Nat → Nat → Nat} {ld nm : Nat → Nat} {nl nf j : Nat} (hBI : BI ld nm nl nf) (hj : j < nf) (I : mI) (J : mJ) (hH : XH I nl nf) (hC : XC I C) (hB : XB I ld nm) : f_X0_piecesBeside kX 63 (nI j) I J R = some (nI (bC (mup C (12 + j) 21 0) ld (ld j) nf 21)) := by
  obtain ⟨-, -, -, -, r4, r5, -, r7, -⟩ := hR.b
  have hn := hH.2.2
  have Lp : ∀ (N d i : Nat), i + d = nf → d < N → f_X0_piecesBeside_L11 kX 63 (nI j) (nI (ld j)) I J R N (nI (bC (mup C (12 + j) 21 0) ld (ld j) i 21)) (nI i) = some (nI (bC (mup C (12 + j) 21 0) ld (ld j) nf 21)) := by
    intro N
    induction N with
    | zero => intro d i e1 e2; omega
    | succ N ih =>
      intro d i e1 e2
      rw [f_X0_piecesBeside_L11, if_pos q63, r4, Option.bind_some, if_pos q64, hH.2.1]
      by_cases hd : d = 0
      · have : i = nf := by omega
        subst this
        rw [if_pos (nI_le (Nat.le_refl _) (by omega))]
      · have hi : i < nf := by omega
        have hld := (hBI i (by omega)).1
        have hlj := (hBI j (by omega)).1
        have ih' := ih (d - 1) (i + 1) (by omega) (by omega)
        rw [if_neg (nI_ge hi (by omega)), nI_s1]
        by_cases e : i = j
        · subst e
          rw [if_pos rfl]
          have step : bC (mup C (12 + i) 21 0) ld (ld i) (i + 1) 21 = bC (mup C (12 + i) 21 0) ld (ld i) i 21 := by
            conv => lhs; unfold bC
            rw [if_pos rfl]
            show bC (mup C (12 + i) 21 0) ld (ld i) i 21 ||| mup C (12 + i) 21 0 (12 + i) 21 = _
            rw [mup_eq, Nat.or_zero]
          rw [step] at ih'
          exact ih'
        · rw [if_neg (fun z => e ((nI_eq (by omega) (by omega)).mp z)), r5, Option.bind_some, if_pos (mx i q126 (by omega) (by decide)), nI_c (show i < 2 ^ 31 by omega), (hB i (by omega)).1]
          by_cases hl : ld i = ld j
          · have step : bC (mup C (12 + j) 21 0) ld (ld j) (i + 1) 21 = bC (mup C (12 + j) 21 0) ld (ld j) i 21 ||| C (12 + i) 21 := by
              conv => lhs; unfold bC
              rw [if_pos hl]
              show bC (mup C (12 + j) 21 0) ld (ld j) i 21 ||| mup C (12 + j) 21 0 (12 + i) 21 = _
              rw [mup_ne _ _ (by omega)]
            rw [step] at ih'
            rw [if_pos (by rw [hl]), r7, Option.bind_some, if_pos (mx i q65 (by omega) (by decide)), hR.c1 (by omega), Option.bind_some, if_pos (isC_cid (12 + i) (by omega)).1, (hC (12 + i) (by omega)).b.s.2.2.2, fa_or]
            exact ih'
          · have step : bC (mup C (12 + j) 21 0) ld (ld j) (i + 1) = bC (mup C (12 + j) 21 0) ld (ld j) i := by
              conv => lhs; unfold bC
              rw [if_neg hl]
            rw [step] at ih'
            rw [if_neg (fun z => hl ((nI_eq (by omega) (by omega)).mp z))]
            exact ih'
  rw [f_X0_piecesBeside, if_pos q63, x_leader_yes hR hH hB hj, Option.bind_some, show f_X0_piecesBeside_L11 kX 63 (nI j) (nI (ld j)) I J R 8192 0 0 = _ from Lp 8192 nf 0 (by omega) (by omega), Option.bind_some]
theorem s_pieces {I : mI} {R : mR} {I' : mI} (h : Sim I R I') (J J' : mJ) (a1 a2 : Int32) : ∃ v I1 I1', f_X8_pieces kX 0 a1 a2 I J R = some (v, I1) ∧ f_X9_pieces kM 0 a1 a2 I' J' rM = some (v, I1') ∧ Sim I1 R I1' := by
  obtain ⟨nl, nf, C, ld, nm, lw, ns, sb, sm, sp, tl, tb, L, L', h⟩ := h
  have h0 := h
  obtain ⟨⟨g1, g2, g3, g4⟩, ⟨x1, x2, x3, x4, x5⟩, h3, h4, ⟨m1, m2, m3, m4⟩, h6, h7, h8⟩ := h0
  obtain ⟨r0, r1, -, -, r4, -, -, -, -⟩ := x1.b
  have hn := x2.2.2
  rcases argc a1 (show nf < 2 ^ 31 by omega) with ⟨j, j1, rfl⟩ | hy
  · have o1 := x_find1_yes (J := J) x1 x2 j1
    have o2 := m_isFile_yes (s := 1) (by decide) hn.2 j1 J' m1.2.1
    have o2 : f_X9_isFile kM 0 1 (nI j) I' J' rM = some true := o2
    by_cases z : (!decide (a2 < 0) && !decide (255 < a2)) = true
    · obtain ⟨v, v1, v2, rfl⟩ := inr (lo := 0) (hi := 255) (by decide) (by decide) z
      have i1 := mx j km5 (show j < 12 by omega) (by decide)
      have i2 := nI_c (show j < 2 ^ 31 by omega)
      have i3 := mx j km6 (show j < 12 by omega) (by decide)
      have b1 := (g2 j (by omega)).1
      have pb := x_beside x1 g2 j1 I J x2 x3 x4
      have ms : mup I' 5 j 0 6 j = nI (ld j) := by rw [mup_ne _ _ (by omega)]; exact (m3 j j1).1
      have pm := m_piecesOf (C := mup C (12 + j) 21 0) (b := ld j) g2 (by omega) (mup I' 5 j 0) J' (m1.cg (fun k => mup_ne _ _ (by omega))) (fun f hf => by
        by_cases e : f = j
        · rw [e, mup_eq, mup_eq]; rfl
        · rw [mup_ne _ _ (by omega), mup_ne _ _ (by omega)]
          have q := (m2 (12 + f) (by omega)).2.2.2 (by omega)
          rw [show 12 + f - 12 = f by omega] at q
          exact q) (m3.cg (fun a k h => mup_ne _ _ (by omega)))
      have hv : vF nl nf (12 + j) := Or.inr ⟨by omega, by omega, by omega⟩
      by_cases y : (nI (bC (mup C (12 + j) 21 0) ld (ld j) nf 21) &&& nI v) = 0
      · refine ⟨true, _, _, ?_, ?_, (h.put (F := 12 + j) (t := 21) (v := v) hv (by decide) (by omega) ⟨by omega, by omega, by omega, by omega, by omega, by omega, by omega⟩).s⟩
        · simp only [f_X8_pieces, q0, if_true, r1, Option.bind_some, q63, r4, q64, o1, mON_s, x_win, z, imt, pb, y, hv.k]
          rfl
        · simp only [f_X9_pieces, km0, if_true, o2, Option.bind_some, m_isIn, z, imt, rq4, rq5, i2, ms, pm, y]
          rw [if_pos i1, if_pos i3, mup_twice]
          rw [show ma 21 = 5 from rfl, show mk (12 + j) 21 = j by (unfold mk; rw [if_neg (by omega), if_pos rfl]; omega)]
      · refine ⟨false, _, _, ?_, ?_, h.s⟩
        · simp only [f_X8_pieces, q0, if_true, r1, Option.bind_some, q63, r4, q64, o1, mON_s, x_win, z, imt, pb, y, if_false]
        · simp only [f_X9_pieces, km0, if_true, o2, Option.bind_some, m_isIn, z, imt, rq4, rq5, i2, ms, pm, y, if_false]
          rw [if_pos i1, if_pos i3, mup_back]
    · have z : (!decide (a2 < 0) && !decide (255 < a2)) = false := by simpa using z
      refine ⟨false, _, _, ?_, ?_, h.s⟩
      · simp only [f_X8_pieces, q0, if_true, r1, Option.bind_some, q63, r4, q64, o1, mON_s, x_win, z, imf]
      · simp only [f_X9_pieces, km0, if_true, o2, Option.bind_some, m_isIn, z, imt, imf]
  · have o1 := x_find1_no (J := J) x1 x2 hy
    have o2 : f_X9_isFile kM 0 1 a1 I' J' rM = some false := m_isFile_no (s := 1) (by decide) hn.2 J' m1.2.1 hy
    refine ⟨false, _, _, ?_, ?_, h.s⟩
    · simp only [f_X8_pieces, q0, if_true, r1, Option.bind_some, q63, r4, q64, o1, mON_n]
    · simp only [f_X9_pieces, km0, if_true, o2, Option.bind_some, imf]
theorem CI.more {C : Nat → Nat → Nat} {nl nf nl' nf' : Nat} (h : CI C nl nf) (h1 : nl ≤ nl') (h2 : nf ≤ nf') : CI C nl' nf' := fun F hF => by
  obtain ⟨a1, a2, a3, a4, a5, a6, a7, a8⟩ := h F hF
  exact ⟨a1, a2, a3, a4, a5, a6, a7, fun nv => a8 (fun z => nv (by unfold vF at z ⊢; omega))⟩
theorem s_file {I : mI} {R : mR} {I' : mI} (h : Sim I R I') (J J' : mJ) (a1 : Int32) : ∃ v I1 I1', f_X8_file kX 0 a1 I J R = some (v, I1) ∧ f_X9_file kM 0 a1 I' J' rM = some (v, I1') ∧ Sim I1 R I1' := by
  obtain ⟨nl, nf, C, ld, nm, lw, ns, sb, sm, sp, tl, tb, L, L', h⟩ := h
  have h0 := h
  obtain ⟨⟨g1, g2, g3, g4⟩, ⟨x1, x2, x3, x4, x5⟩, h3, h4, ⟨m1, m2, m3, m4⟩, h6, h7, h8⟩ := h0
  obtain ⟨r0, r1, -, -, r4, -, -, -, -⟩ := x1.b
  have hL := x1.L
  have hn := x2.2.2
  by_cases e0 : a1 = 0
  · subst e0
    by_cases hf : nl = 12
    · refine ⟨-1, _, _, ?_, ?_, h.s⟩
      · rw [f_X8_file, if_pos rfl, if_pos q0, r0, Option.bind_some, if_pos q1, f_X2_open, if_pos q1, x2.1, hf, if_neg (by decide), Option.bind_some]
      · rw [f_X9_file, m_isIn, Option.bind_some, show (!decide ((0 : Int32) < 0) && !decide ((1 : Int32) < 0)) = true from rfl, imt, if_pos km0, rq0, Option.bind_some, if_pos ix10, sb_cl0, m1.1, hf, if_pos (show nI 12 = 12 from rfl)]
    · have i0 : mIx kM 4 1 (nI nl) := mx _ km4 (show nl < 24 by omega) (by decide)
      refine ⟨nI nl, mup I 1 1 (nI (nl + 1)), mup (mup I' 1 0 (nI (nl + 1))) 4 nl 120, ?_, ?_, SimA.s (nl := nl + 1) (nf := nf) (C := C) (ld := ld) (nm := nm) (lw := lw) (ns := ns) (sb := sb) (sm := sm) (sp := sp) (tl := tl) (tb := tb) (L := L) (L' := L') ⟨⟨g1.more (by omega) (by omega), fun f hf => ?_, g3, g4⟩, ⟨x1, ⟨mup_eq _ _ _ _, by rw [mup_ne _ _ (by omega)]; exact x2.2.1, by omega, by omega⟩, x3.cg (fun a k h => mup_ne _ _ (by omega)), x4.cg (fun a k h => mup_ne _ _ (by omega)), x5.cg (fun a k h => mup_ne _ _ (by omega))⟩, h3.cg (fun a k h => mup_ne _ _ (by omega)), h4.cg (fun a k h => mup_ne _ _ (by omega)), ⟨⟨by rw [mup_ne _ _ (by omega), mup_eq], by rw [mup_ne _ _ (by omega), mup_ne _ _ (by omega)]; exact m1.2.1, by omega, by omega⟩, fun F hF => ?_, m3.cg (fun a k h => by rw [mup_ne _ _ (by omega), mup_ne _ _ (by omega)]), m4.cg (fun k _ => by rw [mup_ne _ _ (by omega), mup_ne _ _ (by omega)])⟩, h6.cg (by rw [mup_ne _ _ (by omega), mup_ne _ _ (by omega)]) (fun a k h => by rw [mup_ne _ _ (by omega), mup_ne _ _ (by omega)]), h7.cg (by rw [mup_ne _ _ (by omega), mup_ne _ _ (by omega)]) (fun k => by rw [mup_ne _ _ (by omega), mup_ne _ _ (by omega)]), by rw [mup_ne _ _ (by omega), mup_ne _ _ (by omega), mup_ne _ _ (by omega)]; exact h8⟩⟩
      · rw [f_X8_file, if_pos rfl, if_pos q0, r0, Option.bind_some, if_pos q1, f_X2_open, if_pos q1, x2.1, if_pos (show nI nl < 12 from (nI_lti (show nl < 2 ^ 31 by omega) (show 12 < 2 ^ 31 by decide)).mpr (by omega)), Option.bind_some, nI_s1, mup_eq, nI_m1 (by omega), Option.bind_some]
        rfl
      · rw [f_X9_file, m_isIn, Option.bind_some, show (!decide ((0 : Int32) < 0) && !decide ((1 : Int32) < 0)) = true from rfl, imt, if_pos km0, rq0, Option.bind_some, if_pos ix10, sb_cl0, m1.1, if_neg (show ¬ nI nl = 12 from fun z => hf ((nI_eq (show nl < 2 ^ 31 by omega) (show 12 < 2 ^ 31 by decide)).mp z)), Option.bind_some, rq3, Option.bind_some, show (12 : Int32) * 0 + nI nl = nI nl by (rw [show (12 : Int32) * 0 = 0 from rfl, Int32.zero_add]), if_pos i0, Option.bind_some, if_neg (by decide), nI_s1, nI_c (show nl < 2 ^ 31 by omega)]
      · obtain ⟨b1, b2, b3, b4, b5⟩ := g2 f hf
        exact ⟨b1, b2, b3, by omega, b5⟩
      · obtain ⟨b1, b2, b3, b4⟩ := m2 F hF
        refine ⟨fun t ht => by rw [mup_ne _ _ (by omega), mup_ne _ _ (by omega)]; exact b1 t ht, by rw [mup_ne _ _ (by omega), mup_ne _ _ (by omega)]; exact b2, fun v => ?_, fun v => by rw [mup_ne _ _ (by omega), mup_ne _ _ (by omega)]; exact b4 v⟩
        by_cases e : F = nl
        · subst e
          rw [mup_eq, (g1 F hF).2.2.2.2.2.2.2 (by unfold vF; omega) 20 (by decide)]
          rfl
        · rw [mup_ne _ _ (by omega), mup_ne _ _ (by omega)]
          exact b3 (by unfold vF at v ⊢; omega)
  · by_cases e1 : a1 = 1
    · subst e1
      by_cases hf : nf = 12
      · refine ⟨-1, _, _, ?_, ?_, h.s⟩
        · rw [f_X8_file, if_neg e0, if_pos rfl, if_pos q0, r1, Option.bind_some, if_pos q63, r4, Option.bind_some, if_pos q64, f_X2_open, if_pos q64, x2.2.1, hf, if_neg (by decide), Option.bind_some]
        · rw [f_X9_file, m_isIn, Option.bind_some, show (!decide ((1 : Int32) < 0) && !decide ((1 : Int32) < 1)) = true from rfl, imt, if_pos km0, rq0, Option.bind_some, if_pos ix11, cl1, m1.2.1, hf, if_pos (show nI 12 = 12 from rfl)]
      · obtain ⟨-, -, d3, -, -⟩ := g2 nf (by omega)
        obtain ⟨d1, d2⟩ := d3 (Nat.le_refl _)
        refine ⟨nI nf, mup I 64 1 (nI (nf + 1)), mup (mup (mup (mup I' 1 1 (nI (nf + 1))) 4 (12 + nf) 120) 6 nf (nI nf)) 7 nf (-1), ?_, ?_, SimA.s (nl := nl) (nf := nf + 1) (C := C) (ld := ld) (nm := nm) (lw := lw) (ns := ns) (sb := sb) (sm := sm) (sp := sp) (tl := tl) (tb := tb) (L := L) (L' := L') ⟨⟨g1.more (by omega) (by omega), fun f hf => ?_, g3, g4⟩, ⟨x1, ⟨by rw [mup_ne _ _ (by omega)]; exact x2.1, mup_eq _ _ _ _, by omega, by omega⟩, x3.cg (fun a k h => mup_ne _ _ (by omega)), x4.cg (fun a k h => mup_ne _ _ (by omega)), x5.cg (fun a k h => mup_ne _ _ (by omega))⟩, h3.cg (fun a k h => mup_ne _ _ (by omega)), h4.cg (fun a k h => mup_ne _ _ (by omega)), ⟨⟨by rw [mup_ne _ _ (by omega), mup_ne _ _ (by omega), mup_ne _ _ (by omega), mup_ne _ _ (by omega)]; exact m1.1, by rw [mup_ne _ _ (by omega), mup_ne _ _ (by omega), mup_ne _ _ (by omega), mup_eq], by omega, by omega⟩, fun F hF => ?_, fun f hf => ?_, m4.cg (fun k _ => by rw [mup_ne _ _ (by omega), mup_ne _ _ (by omega), mup_ne _ _ (by omega), mup_ne _ _ (by omega)])⟩, h6.cg (by rw [mup_ne _ _ (by omega), mup_ne _ _ (by omega), mup_ne _ _ (by omega), mup_ne _ _ (by omega)]) (fun a k h => by rw [mup_ne _ _ (by omega), mup_ne _ _ (by omega), mup_ne _ _ (by omega), mup_ne _ _ (by omega)]), h7.cg (by rw [mup_ne _ _ (by omega), mup_ne _ _ (by omega), mup_ne _ _ (by omega), mup_ne _ _ (by omega)]) (fun k => by rw [mup_ne _ _ (by omega), mup_ne _ _ (by omega), mup_ne _ _ (by omega), mup_ne _ _ (by omega)]), by rw [mup_ne _ _ (by omega), mup_ne _ _ (by omega), mup_ne _ _ (by omega), mup_ne _ _ (by omega), mup_ne _ _ (by omega)]; exact h8⟩⟩
        · rw [f_X8_file, if_neg e0, if_pos rfl, if_pos q0, r1, Option.bind_some, if_pos q63, r4, Option.bind_some, if_pos q64, f_X2_open, if_pos q64, x2.2.1, if_pos (show nI nf < 12 from (nI_lti (show nf < 2 ^ 31 by omega) (show 12 < 2 ^ 31 by decide)).mpr (by omega)), Option.bind_some, nI_s1, mup_eq, nI_m1 (by omega), Option.bind_some]
          rfl
        · rw [f_X9_file, m_isIn, Option.bind_some, show (!decide ((1 : Int32) < 0) && !decide ((1 : Int32) < 1)) = true from rfl, imt, if_pos km0, rq0, Option.bind_some, if_pos ix11, cl1, m1.2.1, if_neg (show ¬ nI nf = 12 from fun z => hf ((nI_eq (show nf < 2 ^ 31 by omega) (show 12 < 2 ^ 31 by decide)).mp z)), Option.bind_some, rq3, Option.bind_some, show (12 : Int32) * 1 + nI nf = nI (12 + nf) by (rw [show (12 : Int32) * 1 = nI 12 from rfl, nI_add]), if_pos (mx _ km4 (show 12 + nf < 24 by omega) (by decide)), Option.bind_some, if_pos rfl, nI_s1, nI_c (show 12 + nf < 2 ^ 31 by omega), rq5, Option.bind_some, if_pos (mx _ km6 (show nf < 12 by omega) (by decide)), Option.bind_some, rq6, Option.bind_some, if_pos (mx _ km7 (show nf < 12 by omega) (by decide)), Option.bind_some, nI_c (show nf < 2 ^ 31 by omega)]
        · obtain ⟨b1, b2, b3, b4, b5⟩ := g2 f hf
          exact ⟨b1, b2, fun q => b3 (by omega), b4, b5⟩
        · obtain ⟨b1, b2, b3, b4⟩ := m2 F hF
          refine ⟨fun t ht => by rw [mup_ne _ _ (by omega), mup_ne _ _ (by omega), mup_ne _ _ (by omega), mup_ne _ _ (by omega)]; exact b1 t ht, by rw [mup_ne _ _ (by omega), mup_ne _ _ (by omega), mup_ne _ _ (by omega), mup_ne _ _ (by omega)]; exact b2, fun v => ?_, fun v => by rw [mup_ne _ _ (by omega), mup_ne _ _ (by omega), mup_ne _ _ (by omega), mup_ne _ _ (by omega)]; exact b4 v⟩
          rw [mup_ne _ _ (by omega), mup_ne _ _ (by omega)]
          by_cases e : F = 12 + nf
          · subst e
            rw [mup_eq, (g1 (12 + nf) hF).2.2.2.2.2.2.2 (by unfold vF; omega) 20 (by decide)]
            rfl
          · rw [mup_ne _ _ (by omega), mup_ne _ _ (by omega)]
            exact b3 (by unfold vF at v ⊢; omega)
        · by_cases e : f = nf
          · subst e
            exact ⟨by rw [mup_ne _ _ (by omega), mup_eq, d1], by rw [mup_eq, d2]; rfl⟩
          · obtain ⟨b1, b2⟩ := m3 f (by omega)
            exact ⟨by rw [mup_ne _ _ (by omega), mup_ne _ _ (by omega), mup_ne _ _ (by omega), mup_ne _ _ (by omega)]; exact b1, by rw [mup_ne _ _ (by omega), mup_ne _ _ (by omega), mup_ne _ _ (by omega), mup_ne _ _ (by omega)]; exact b2⟩
    · have z : (!decide (a1 < 0) && !decide (1 < a1)) = false := by
        by_cases z : (!decide (a1 < 0) && !decide (1 < a1)) = true
        · obtain ⟨v, v1, v2, rfl⟩ := inr (lo := 0) (hi := 1) (by decide) (by decide) z
          rcases (show v = 0 ∨ v = 1 by omega) with rfl | rfl
          · exact absurd rfl e0
          · exact absurd rfl e1
        · simpa using z
      refine ⟨-1, _, _, ?_, ?_, h.s⟩
      · rw [f_X8_file, if_neg e0, if_neg e1]
      · rw [f_X9_file, m_isIn, Option.bind_some, z, imf]
