/-! ===== feed ===== -/
theorem q167 : kX 167 = (2, 500) := rfl
def byt (v s : Int32) : Int32 := (((v >>> (s &&& 31))).toInt8.toInt32).toInt8.toInt32
def ptI (f : Nat → Int32) (n : Nat) (v : Int32) : Nat → Int32 := fun i => if i = n then v else f i
theorem u_byte {I I' : mI} {tl : Nat} {tb : Nat → Int32} (hX : XT I tl tb) (hM : MT I' tl tb) (h : tl < 500) (v s : Int32) : XT (mup (mup I 167 tl (byt v s)) 166 1 (nI (tl + 1))) (tl + 1) (ptI tb tl (byt v s)) ∧ MT (mup (mup I' 15 tl (byt v s)) 0 17 (nI (tl + 1))) (tl + 1) (ptI tb tl (byt v s)) := by
  refine ⟨⟨mup_eq _ _ _ _, by omega, fun i hi => ?_⟩, ⟨mup_eq _ _ _ _, fun i hi => ?_⟩⟩
  · unfold ptI
    by_cases e : i = tl
    · subst e
      rw [if_pos rfl, mup_ne _ _ (by omega), mup_eq]
      refine ⟨rfl, ?_⟩
      unfold byt
      exact fb_byte_twice _
    · rw [if_neg e, mup_ne _ _ (by omega), mup_ne _ _ (by omega)]
      exact hX.2.2 i (by omega)
  · unfold ptI
    by_cases e : i = tl
    · subst e
      rw [if_pos rfl, mup_ne _ _ (by omega), mup_eq]
    · rw [if_neg e, mup_ne _ _ (by omega), mup_ne _ _ (by omega)]
      exact hM.2 i (by omega)
theorem x_put_s {R : mR} {L L' : Nat} (hR : XR R L L') {I : mI} {J : mJ} {tl : Nat} (h1 : I 166 1 = nI tl) (h : tl < 500) (v : Int32) {s : Nat} (hs : s < 32) (N : Nat) : f_X7_put_L3 kX 166 v J R (N + 1) (nI s) I = f_X7_put_L3 kX 166 v J R N (nI s + -8) (mup (mup I 167 tl (byt v (nI s))) 166 1 (nI (tl + 1))) := by
  obtain ⟨-, r1, -⟩ := hR.t
  rw [f_X7_put_L3, if_neg (nI_pos (by omega)), if_pos q166, h1, if_neg (show ¬ (500 : Int32) ≤ nI tl from nI_ge h (by decide)), r1, Option.bind_some, if_pos (mx tl q167 h (by decide)), nI_c (by omega), Option.bind_some, mup_ne _ _ (by omega), h1, nI_s1, Option.bind_some]
  rfl
theorem m_four_s {I : mI} {J : mJ} {tl : Nat} (h1 : I 0 17 = nI tl) (h : tl < 500) (v : Int32) {s : Nat} (hs : s < 32) (N : Nat) : f_X9_four_L3 kM 0 v J rM (N + 1) (nI s) I = f_X9_four_L3 kM 0 v J rM N (nI s + -8) (mup (mup I 15 tl (byt v (nI s))) 0 17 (nI (tl + 1))) := by
  rw [f_X9_four_L3, if_neg (nI_pos (by omega)), if_pos km0, h1, rq15, Option.bind_some, if_pos (mx tl km15 h (by decide)), nI_c (by omega), Option.bind_some, mup_ne _ _ (by omega), h1, nI_s1, Option.bind_some]
  rfl
theorem u_put {R : mR} {L L' : Nat} (hR : XR R L L') {I I' : mI} {tl : Nat} {tb : Nat → Int32} (J J' : mJ) (hX : XT I tl tb) (hM : MT I' tl tb) (h : tl + 4 ≤ 500) (v : Int32) : ∃ tb' I1 I1', f_X7_put kX 166 v I J R = some I1 ∧ f_X9_four kM 0 v I' J' rM = some I1' ∧ XT I1 (tl + 4) tb' ∧ MT I1' (tl + 4) tb' ∧ (∀ a k, a ≠ 167 → ¬ (a = 166 ∧ k = 1) → I1 a k = I a k) ∧ ∀ a k, a ≠ 15 → ¬ (a = 0 ∧ k = 17) → I1' a k = I' a k := by
  obtain ⟨a1, b1⟩ := u_byte hX hM (by omega) v (nI 24)
  obtain ⟨a2, b2⟩ := u_byte a1 b1 (by omega) v (nI 16)
  obtain ⟨a3, b3⟩ := u_byte a2 b2 (by omega) v (nI 8)
  obtain ⟨a4, b4⟩ := u_byte a3 b3 (by omega) v (nI 0)
  refine ⟨_, _, _, ?_, ?_, a4, b4, fun a k n1 n2 => ?_, fun a k n1 n2 => ?_⟩
  · rw [f_X7_put, show (8192 : Nat) = 8187 + 1 + 1 + 1 + 1 + 1 from rfl, show (24 : Int32) = nI 24 from rfl, x_put_s hR hX.1 (by omega) v (by decide), show nI 24 + (-8) = nI 16 from rfl, x_put_s hR a1.1 (by omega) v (by decide), show nI 16 + (-8) = nI 8 from rfl, x_put_s hR a2.1 (by omega) v (by decide), show nI 8 + (-8) = nI 0 from rfl, x_put_s hR a3.1 (by omega) v (by decide), show nI 0 + (-8) = -8 from rfl, f_X7_put_L3, if_pos (by decide), Option.bind_some]
  · rw [f_X9_four, show (8192 : Nat) = 8187 + 1 + 1 + 1 + 1 + 1 from rfl, show (24 : Int32) = nI 24 from rfl, m_four_s hM.1 (by omega) v (by decide), show nI 24 + (-8) = nI 16 from rfl, m_four_s b1.1 (by omega) v (by decide), show nI 16 + (-8) = nI 8 from rfl, m_four_s b2.1 (by omega) v (by decide), show nI 8 + (-8) = nI 0 from rfl, m_four_s b3.1 (by omega) v (by decide), show nI 0 + (-8) = -8 from rfl, f_X9_four_L3, if_pos (by decide), Option.bind_some]
  · rw [mup_ne _ _ (by omega), mup_ne _ _ (by omega), mup_ne _ _ (by omega), mup_ne _ _ (by omega), mup_ne _ _ (by omega), mup_ne _ _ (by omega), mup_ne _ _ (by omega), mup_ne _ _ (by omega)]
  · rw [mup_ne _ _ (by omega), mup_ne _ _ (by omega), mup_ne _ _ (by omega), mup_ne _ _ (by omega), mup_ne _ _ (by omega), mup_ne _ _ (by omega), mup_ne _ _ (by omega), mup_ne _ _ (by omega)]
theorem SimA.tape {nl nf : Nat} {C : Nat → Nat → Nat} {ld nm lw : Nat → Nat} {ns : Nat} {sb sm sp : Nat → Nat} {tl tl' : Nat} {tb tb' : Nat → Int32} {L L' : Nat} {I I1 : mI} {R : mR} {I' I1' : mI} (h : SimA nl nf C ld nm lw ns sb sm sp tl tb L L' I R I') (hX : XT I1 tl' tb') (hM : MT I1' tl' tb') (fX : ∀ a k, a ≠ 167 → ¬ (a = 166 ∧ k = 1) → I1 a k = I a k) (fM : ∀ a k, a ≠ 15 → ¬ (a = 0 ∧ k = 17) → I1' a k = I' a k) : SimA nl nf C ld nm lw ns sb sm sp tl' tb' L L' I1 R I1' := by
  obtain ⟨h1, ⟨x1, x2, x3, x4, x5⟩, h3, h4, ⟨m1, m2, m3, m4⟩, h6, h7, h8⟩ := h
  have hL := x1.L
  exact ⟨h1, ⟨x1, x2.cg (fun a k h => fX a k (by omega) (by omega)), x3.cg (fun a k h => fX a k (by omega) (by omega)), x4.cg (fun a k h => fX a k (by omega) (by omega)), x5.cg (fun a k h => fX a k (by omega) (by omega))⟩, h3.cg (fun a k h => fX a k (by omega) (by omega)), hX, ⟨m1.cg (fun k => fM _ k (by omega) (by omega)), m2.cg (fun a k h => fM _ k (by omega) (by omega)), m3.cg (fun a k h => fM _ k (by omega) (by omega)), m4.cg (fun k _ => fM _ k (by omega) (by omega))⟩, h6.cg (fM _ _ (by omega) (by omega)) (fun a k h => fM _ k (by omega) (by omega)), hM, by rw [fX _ _ (by omega) (by omega), fM _ _ (by omega) (by omega)]; exact h8⟩
theorem s_feed {I : mI} {R : mR} {I' : mI} (h : Sim I R I') (J J' : mJ) (a1 a2 a3 a4 a5 : Int32) : ∃ v I1 I1', f_X8_feed kX 0 a1 a2 a3 a4 a5 I J R = some (v, I1) ∧ f_X9_feed kM 0 a1 a2 a3 a4 a5 I' J' rM = some (v, I1') ∧ Sim I1 R I1' := by
  obtain ⟨nl, nf, C, ld, nm, lw, ns, sb, sm, sp, tl, tb, L, L', h⟩ := h
  have x1 := h.2.1.1
  have hX := h.2.2.2.1
  have hM := h.2.2.2.2.2.2.1
  obtain ⟨r0, -, -⟩ := x1.t
  have t5 := hX.2.1
  have e20 : nI tl + (20 : Int32) = nI (tl + 20) := nI_plus tl 20
  by_cases ht : tl + 20 ≤ 500
  · obtain ⟨b1, X1, M1, p1, q1, c1, d1, f1, g1⟩ := u_put x1 J J' hX hM (by omega) a1
    obtain ⟨b2, X2, M2, p2, q2, c2, d2, f2, g2⟩ := u_put x1 J J' c1 d1 (by omega) a2
    obtain ⟨b3, X3, M3, p3, q3, c3, d3, f3, g3⟩ := u_put x1 J J' c2 d2 (by omega) a3
    obtain ⟨b4, X4, M4, p4, q4, c4, d4, f4, g4⟩ := u_put x1 J J' c3 d3 (by omega) a4
    obtain ⟨b5, X5, M5, p5, q5, c5, d5, f5, g5⟩ := u_put x1 J J' c4 d4 (by omega) a5
    refine ⟨nI (tl + 4 + 4 + 4 + 4 + 4), X5, M5, ?_, ?_, (((((h.tape c1 d1 f1 g1).tape c2 d2 f2 g2).tape c3 d3 f3 g3).tape c4 d4 f4 g4).tape c5 d5 f5 g5).s⟩
    · rw [f_X8_feed, if_pos q0, r0, Option.bind_some, if_pos q166, f_X7_hasRoomFor, if_pos q166, hX.1, e20, if_neg (show ¬ (500 : Int32) < nI (tl + 20) from fun z => by have := (nI_lti (show 500 < 2 ^ 31 by decide) (show tl + 20 < 2 ^ 31 by omega)).mp z; omega), Option.bind_some, imt, p1, Option.bind_some, p2, Option.bind_some, p3, Option.bind_some, p4, Option.bind_some, p5, Option.bind_some, c5.1]
    · rw [f_X9_feed, if_pos km0, hM.1, e20, if_pos (show nI (tl + 20) ≤ (500 : Int32) from nI_le (by omega) (by decide)), q1, Option.bind_some, q2, Option.bind_some, q3, Option.bind_some, q4, Option.bind_some, q5, Option.bind_some, d5.1]
  · refine ⟨-1, I, I', ?_, ?_, h.s⟩
    · rw [f_X8_feed, if_pos q0, r0, Option.bind_some, if_pos q166, f_X7_hasRoomFor, if_pos q166, hX.1, e20, if_pos (show (500 : Int32) < nI (tl + 20) from (nI_lti (show 500 < 2 ^ 31 by decide) (show tl + 20 < 2 ^ 31 by omega)).mpr (by omega)), Option.bind_some, imf]
    · rw [f_X9_feed, if_pos km0, hM.1, e20, if_neg (show ¬ nI (tl + 20) ≤ (500 : Int32) from nI_ge (show 500 < tl + 20 by omega) (by omega))]
