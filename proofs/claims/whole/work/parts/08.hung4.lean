theorem h_aug {R : mR} {L L' : Nat} (hR : XR R L L') {w : Nat → Nat → Int} {r s x0 : Nat} {p0 : Nat → Nat} {t : Nat → Bool} {q rk : Nat → Nat} {u v gp : Nat → Int} (hV : pV w r s x0 p0 t q rk u v gp) (hr : r < 12) (J : mJ) :
    ∀ (N x k3 k : Nat) (I : mI) (p : Nat → Nat), pA w r p0 t q rk u v x k p → (∀ j, j < 13 → I 160 j = nI (p j)) → (∀ j, 1 ≤ j → j < 13 → I 164 j = nI (q j)) → k3 + k ≤ 12 → 13 ≤ N + k3 →
      ∃ (I' : mI) (p' : Nat → Nat) (k' : Nat), f_X4_place_L91 kX 131 J R N (nI x) (nI k3) I = some I' ∧ (∀ j, j < 13 → I' 160 j = nI (p' j)) ∧ pA w r p0 t q rk u v 0 k' p' ∧ ∀ a k, a ≠ 160 → I' a k = I a k := by
  obtain ⟨-, -, -, r4, -, -, -, r8, -⟩ := hR.p
  intro N
  induction N with
  | zero => intro x k3 k I p hA h1 h2 h3 h4; omega
  | succ N ih =>
    intro x k3 k I p hA h1 h2 h3 h4
    rw [f_X4_place_L91, if_neg (ge13 (by omega))]
    obtain ⟨m1, m2, -, -, -, -, -, m8⟩ := id hA
    by_cases hx : x = 0
    · subst hx
      rw [if_pos nI_0]
      exact ⟨I, p, k, rfl, h1, hA, fun _ _ _ => rfl⟩
    · obtain ⟨n1, n2, n3, n4⟩ := m8 hx
      rw [if_neg (nI_ne0 (by omega) (by omega)), if_pos k131, r8, Option.bind_some, if_pos (mIx_of k164 m1 (by decide)), r4, Option.bind_some, nI_c (show x < 2 ^ 31 by omega), h2 x (by omega) m1, if_pos (mIx_of k160 n1 (by decide)), if_pos (mIx_of k160 m1 (by decide)), Option.bind_some, nI_c (show q x < 2 ^ 31 by omega), nI_s1, h1 (q x) n1]
      obtain ⟨g1, g2⟩ := p_astep hV hA hx
      obtain ⟨I', p', k', o1, o2, o3, o4⟩ := ih (q x) (k3 + 1) (rk (q x)) (mup I 160 x (nI (p (q x)))) (fun j => if j = x then p (q x) else p j) g1 (fun j hj => by
        by_cases hjx : j = x
        · simp only [hjx, if_true]; rw [mup_eq]
        · simp only [hjx, if_false]; rw [mup_ne _ _ (fun z => hjx z.2)]; exact h1 j hj) (fun j j1 j2 => by rw [mup_ne _ _ (by omega)]; exact h2 j j1 j2) (by omega) (by omega)
      exact ⟨I', p', k', o1, o2, o3, fun a k9 h => by rw [o4 a k9 h, mup_ne _ _ (fun z => h z.1)]⟩
theorem far_int : far64.toInt = 4000000000000000000 := by decide
theorem h_first {R : mR} {L L' : Nat} (hR : XR R L L') {w : Nat → Nat → Int} {r : Nat} (hr : r < 12) (hw : ∀ i j, 1 ≤ i → i < 13 → 1 ≤ j → j < 13 → 0 ≤ w i j ∧ w i j ≤ 500000000000000000) (N : Nat) (hN : 13 ≤ N) (I : mI) (J : mJ) (p : Nat → Nat) (hp0 : p 0 = r + 1) (m1 : ∀ j, j < 13 → I 160 j = nI (p j)) (m2 : ∀ j, j < 13 → I 165 j = mb false) (m3 : ∀ j, j < 13 → J 163 j = far64) (hwj : ∀ i j, 1 ≤ i → i < 13 → 1 ≤ j → j < 13 → wv J i j = w i j) (hB : pB w r p (uv J) (vv J)) (hbv : ∀ j, 1 ≤ j → j < 13 → -500000000000000000 ≤ vv J j) :
      ∃ (x' : Nat) (I' : mI) (J' : mJ) (s' : Nat) (t' : Nat → Bool) (q' rk' : Nat → Nat), f_X4_place_L41 kX 131 R (N + 1) (nI 0) (nI 0) I J = some (nI x', I', J') ∧ p x' = 0 ∧ mI3 I' p t' q' ∧ (∀ i j, 1 ≤ i → i < 13 → 1 ≤ j → j < 13 → wv J' i j = w i j) ∧ pV w r s' x' p t' q' rk' (uv J') (vv J') (gv J') ∧ s' ≤ 12 ∧ (∀ a k, a ≠ 164 → a ≠ 165 → I' a k = I a k) ∧ (∀ a k, a ≠ 161 → a ≠ 162 → a ≠ 163 → J' a k = J a k) := by
  obtain ⟨-, -, -, r4, -, -, r7, -, r9⟩ := hR.p
  obtain ⟨a1, a2, a3, a4, a5, a6, a7, a8⟩ := id hB
  rw [f_X4_place_L41, if_neg (ge13 (by decide)), if_pos k131, r4, Option.bind_some, if_pos (mIx_of k160 (by decide) (by decide)), nI_c (by decide), m1 0 (by decide), hp0, if_neg (nI_ne0 (by omega) (by omega)), r9, Option.bind_some, if_pos (mIx_of k165 (by decide) (by decide)), Option.bind_some]
  generalize hI1 : mup I 165 0 (mb true) = I1
  have i160 : ∀ k, I1 160 k = I 160 k := fun k => by rw [← hI1]; exact mup_ne _ _ (by omega)
  have i165 : ∀ j, j < 13 → I1 165 j = mb (decide (j = 0)) := fun j hj => by
    rw [← hI1]
    by_cases h : j = 0
    · rw [h, mup_eq]; rfl
    · rw [mup_ne _ _ (fun e => h e.2), m2 j hj]; simp [h]
  rw [h_measure hR 0 (r + 1) (by decide) (by omega) I1 J (by rw [i160 0, m1 0 (by decide), hp0]), Option.bind_some]
  have u0 := a7 (r + 1) (by omega) (by omega)
  have hsx : ∀ j, 1 ≤ j → j < 13 → (hsl J (r + 1) j).toInt = psl w (uv J) (vv J) (r + 1) j := fun j j1 j2 => by
    rw [hsl_int (by rw [hwj _ j (by omega) (by omega) j1 j2]; exact hw _ j (by omega) (by omega) j1 j2) (by rw [u0]; decide) ⟨hbv j j1 j2, (a6 j j1 j2).1⟩]
    simp only [psl]
    rw [hwj _ j (by omega) (by omega) j1 j2]
  have bsx : ∀ j, 1 ≤ j → j < 13 → -500000000000000000 ≤ psl w (uv J) (vv J) (r + 1) j ∧ psl w (uv J) (vv J) (r + 1) j ≤ 500000000000000000 := fun j j1 j2 => by
    have q1 := hw (r + 1) j (by omega) (by omega) j1 j2
    have q2 := (a6 j j1 j2).1
    have q3 := hbv j j1 j2
    simp only [psl]
    omega
  have hcx : ∀ j, 1 ≤ j → j < 13 → hcd I1 J (r + 1) j = true := fun j j1 j2 => by
    rw [hcd_iff (i165 j j2), hsx j j1 j2, show gv J j = (J 163 j).toInt from rfl, m3 j j2, far_int]
    have := bsx j j1 j2
    exact ⟨by simp; omega, by omega⟩
  dsimp only
  generalize hI2 : rowU I1 164 1 13 (fun k => if hcd I1 J (r + 1) k = true then nI 0 else I1 164 k) = I2
  generalize hJ2 : rowU J 163 1 13 (fun k => if hcd I1 J (r + 1) k = true then hsl J (r + 1) k else J 163 k) = J2
  have i2 : ∀ a k, a ≠ 164 → I2 a k = I1 a k := fun a k h => by rw [← hI2]; exact rowU_ne h
  have j2 : ∀ a k, a ≠ 163 → J2 a k = J a k := fun a k h => by rw [← hJ2]; exact rowU_ne h
  have i265 : ∀ j, j < 13 → I2 165 j = mb (decide (j = 0)) := fun j hj => (i2 165 j (by decide)).trans (i165 j hj)
  have hg1 : ∀ j, 1 ≤ j → j < 13 → gv J2 j = psl w (uv J) (vv J) (r + 1) j := fun j j1 j3 => by
    have e : J2 163 j = if hcd I1 J (r + 1) j = true then hsl J (r + 1) j else J 163 j := by rw [← hJ2]; exact rowU_in j1 j3
    rw [show gv J2 j = (J2 163 j).toInt from rfl, e, if_pos (hcx j j1 j3), hsx j j1 j3]
  obtain ⟨x', y1, y2, y3, y4⟩ := h_nearest hR I2 J2
  have hx1 : 1 ≤ x' := by
    by_cases h : x' = 0
    · have := y3 h 1 (by decide) (by decide)
      rw [i265 1 (by decide)] at this
      exact absurd rfl this
    · omega
  obtain ⟨y5, y6⟩ := y4 hx1
  have hmin : ∀ k, 1 ≤ k → k < 13 → gv J2 x' ≤ gv J2 k := fun k k1 k2 => Int64.le_iff_toInt_le.mp (y6 k k1 k2 (by rw [i265 k k2, mb_0]; simp; omega))
  rw [y2, Option.bind_some, r7, Option.bind_some, if_pos (mIx_of k163 y1 (by decide)), nI_c (show x' < 2 ^ 31 by omega), nI_s1]
  obtain ⟨J3, w1, s1, s2, s3, s4, s5⟩ := h_shift hR I2 J2 (fun j => decide (j = 0)) p (J2 163 x') (fun c hc hc2 => by
    have : c = 0 := by simpa using hc2
    subst this
    exact ⟨by rw [i2 160 0 (by decide), i160 0]; exact m1 0 hc, by omega⟩) i265 (fun c c' _ _ h1 h2 _ => by
    have q1 : c = 0 := by simpa using h1
    have q2 : c' = 0 := by simpa using h2
    omega)
  rw [w1, Option.bind_some]
  have dd := bsx x' hx1 y1
  rw [← hg1 x' hx1 y1] at dd
  have hu1 : uv J3 (r + 1) = uv J (r + 1) + gv J2 x' := by
    have k1 : J3 161 (p 0) = J2 161 (p 0) + J2 163 x' := s4 0 (by decide) (by decide)
    rw [hp0, j2 161 _ (by decide)] at k1
    unfold uv at u0 ⊢
    unfold gv at dd ⊢
    rw [k1, fb_addL (by omega) (by omega)]
  have hu2 : ∀ i, i ≠ r + 1 → uv J3 i = uv J i := fun i h => by
    unfold uv
    rw [s5 i (fun c hc hc2 e => by
      have : c = 0 := by simpa using hc2
      subst this
      rw [hp0] at e
      omega), j2 161 _ (by decide)]
  have hv3 : ∀ j, 1 ≤ j → j < 13 → vv J3 j = vv J j := fun j h1 h2 => by
    unfold vv
    rw [s3 j, if_neg (fun z => by have := z.2; simp at this; omega), j2 162 _ (by decide)]
  have hg3 : ∀ j, 1 ≤ j → j < 13 → gv J3 j = gv J2 j - gv J2 x' := fun j h1 h2 => by
    have k2 := bsx j h1 h2
    rw [← hg1 j h1 h2] at k2
    unfold gv at dd k2 ⊢
    rw [s2 j, if_pos ⟨h2, by simp; omega⟩, fb_subL (by omega) (by omega)]
  have hV' := p_first (q1 := fun _ => 0) hB hr hw hp0 hg1 (fun _ _ _ => rfl) hx1 y1 hmin hu1 hu2 hv3 hg3
  have hm' : mI3 I2 p (fun j => decide (j = 0)) (fun _ => 0) := by
    refine ⟨fun j hj => by rw [i2 160 j (by decide), i160 j]; exact m1 j hj, i265, fun j h1 h2 => ?_⟩
    have e : I2 164 j = if hcd I1 J (r + 1) j = true then nI 0 else I1 164 j := by rw [← hI2]; exact rowU_in h1 h2
    rw [e, if_pos (hcx j h1 h2)]
  obtain ⟨x9, I9, J9, sq, t9, q9, rk9, o1, o2, o3, o4, o5, o6, o7, o8⟩ := h_inner hR hr hw N 1 x' I2 J3 p _ _ _ hm' (fun i j h1 h2 h3 h4 => by
    unfold wv
    rw [s1 _ _ (by omega) (by omega) (by omega), j2 _ _ (by omega)]
    exact hwj i j h1 h2 h3 h4) hV' (by omega)
  refine ⟨x9, I9, J9, sq, t9, q9, rk9, o1, o2, o3, o4, o5, o6, fun a k h1 h2 => ?_, fun a k h1 h2 h3 => ?_⟩
  · rw [o7 a k h1 h2, i2 a k h1, ← hI1, mup_ne _ _ (fun z => h2 z.1)]
  · rw [o8 a k h1 h2 h3, s1 a k h1 h2 h3, j2 a k h3]
theorem p_Bv {w : Nat → Nat → Int} {r : Nat} {p : Nat → Nat} {u v : Nat → Int} (hB : pB w r p u v) (hr : r < 13) (hw : ∀ i j, 1 ≤ i → i < 13 → 1 ≤ j → j < 13 → 0 ≤ w i j ∧ w i j ≤ 500000000000000000) : (∀ i, 1 ≤ i → i ≤ r → u i ≤ 0) ∧ ∀ j, 1 ≤ j → j < 13 → -500000000000000000 ≤ v j := by
  obtain ⟨a1, a2, a3, a4, a5, a6, a7, ⟨j0, z1, z2, z3⟩⟩ := hB
  have hu : ∀ i, 1 ≤ i → i ≤ r → u i ≤ 0 := fun i i1 i2 => by
    have m := a4 i j0 i1 i2 z1 z2
    have m2 := (hw i j0 i1 (by omega) z1 z2).1
    simp only [psl] at m
    omega
  refine ⟨hu, fun j j1 j2 => ?_⟩
  by_cases hp : p j = 0
  · rw [(a6 j j1 j2).2 hp]; decide
  · have m := a5 j j1 j2 hp
    have m1 := a1 j j1 j2
    have m2 := (hw (p j) j (by omega) (by omega) j1 j2).2
    have m3 := hu (p j) (by omega) (by omega)
    simp only [psl] at m
    omega
theorem h_place {R : mR} {L L' : Nat} (hR : XR R L L') {w : Nat → Nat → Int} {r : Nat} (hr : r < 12) (hw : ∀ i j, 1 ≤ i → i < 13 → 1 ≤ j → j < 13 → 0 ≤ w i j ∧ w i j ≤ 500000000000000000) (I : mI) (J : mJ) (p : Nat → Nat) (m1 : ∀ j, 1 ≤ j → j < 13 → I 160 j = nI (p j)) (hwj : ∀ i j, 1 ≤ i → i < 13 → 1 ≤ j → j < 13 → wv J i j = w i j) (hB : pB w r p (uv J) (vv J)) :
    ∃ (I' : mI) (J' : mJ) (p' : Nat → Nat), f_X4_place kX 131 (nI (r + 1)) I J R = some (I', J') ∧ (∀ j, 1 ≤ j → j < 13 → I' 160 j = nI (p' j)) ∧ (∀ i j, 1 ≤ i → i < 13 → 1 ≤ j → j < 13 → wv J' i j = w i j) ∧ pB w (r + 1) p' (uv J') (vv J') ∧ (∀ a k, a ≠ 160 → a ≠ 164 → a ≠ 165 → I' a k = I a k) ∧ (∀ a k, a ≠ 161 → a ≠ 162 → a ≠ 163 → J' a k = J a k) := by
  obtain ⟨-, -, -, r4, -, -, r7, -, r9⟩ := hR.p
  have hL2 := h_place_L2 hR (nI (r + 1)) I J 8192 0 (by decide) (by decide)
  rw [rowU_0, rowU_0] at hL2
  rw [f_X4_place, show (0 : Int32) = nI 0 from rfl, hL2, Option.bind_some, if_pos k131, r4, Option.bind_some, if_pos (mIx_of k160 (by decide) (by decide)), Option.bind_some, nI_c (by decide)]
  dsimp only
  generalize hI1 : mup (rowU I 165 0 13 (fun _ => mb false)) 160 0 (nI (r + 1)) = I1
  generalize hJ1 : rowU J 163 0 13 (fun _ => far64) = J1
  have jn : ∀ a k, a ≠ 163 → J1 a k = J a k := fun a k h => by rw [← hJ1]; exact rowU_ne h
  have eu : uv J1 = uv J := funext fun i => by unfold uv; rw [jn 161 i (by decide)]
  have ev : vv J1 = vv J := funext fun i => by unfold vv; rw [jn 162 i (by decide)]
  have hB1 : pB w r (fun j => if j = 0 then r + 1 else p j) (uv J1) (vv J1) := by
    rw [eu, ev]
    obtain ⟨a1, a2, a3, a4, a5, a6, a7, a8⟩ := hB
    refine ⟨fun j h1 h2 => ?_, fun j k h1 h2 h3 h4 => ?_, fun i h1 h2 => ?_, a4, fun j h1 h2 => ?_, fun j h1 h2 => ?_, a7, a8⟩
    · simp only [show j ≠ 0 by omega, if_false]; exact a1 j h1 h2
    · simp only [show j ≠ 0 by omega, show k ≠ 0 by omega, if_false]; exact a2 j k h1 h2 h3 h4
    · obtain ⟨j, j1, j2, j3⟩ := a3 i h1 h2
      exact ⟨j, j1, j2, by simp only [show j ≠ 0 by omega, if_false]; exact j3⟩
    · simp only [show j ≠ 0 by omega, if_false]; exact a5 j h1 h2
    · simp only [show j ≠ 0 by omega, if_false]; exact a6 j h1 h2
  obtain ⟨x', I', J', s', t', q', rk', o1, o2, o3, o4, o5, o6, o7, o8⟩ := h_first hR hr hw 8191 (by decide) I1 J1 (fun j => if j = 0 then r + 1 else p j) (by simp) (fun j hj => by
    rw [← hI1]
    by_cases h : j = 0
    · rw [h, mup_eq]; simp
    · rw [mup_ne _ _ (fun z => h z.2), rowU_ne (by decide), m1 j (by omega) hj]; simp [h]) (fun j hj => by rw [← hI1, mup_ne _ _ (by omega), rowU_in (by omega) hj]) (fun j hj => by rw [← hJ1, rowU_in (by omega) hj]) (fun i j h1 h2 h3 h4 => by unfold wv; rw [jn _ _ (by omega)]; exact hwj i j h1 h2 h3 h4) hB1 (by rw [ev]; exact (p_Bv hB (by omega) hw).2)
  rw [show f_X4_place_L41 kX 131 R 8192 (nI 0) (nI 0) I1 J1 = some (nI x', I', J') from o1, Option.bind_some]
  dsimp only
  obtain ⟨I9, p9, k9, n1, n2, n3, n4⟩ := h_aug hR o5 hr J' 8192 x' 0 s' I' _ (p_astart o5 o2) o3.1 o3.2.2 (by omega) (by omega)
  rw [n1, Option.bind_some]
  refine ⟨I9, J', p9, rfl, fun j _ h2 => n2 j h2, o4, p_end o5 o2 n3, fun a k h1 h2 h3 => ?_, fun a k h1 h2 h3 => ?_⟩
  · rw [n4 a k h1, o7 a k h2 h3, ← hI1, mup_ne _ _ (fun z => h1 z.1), rowU_ne h3]
  · rw [o8 a k h1 h2 h3, jn a k h3]
theorem h_settle_L41 {R : mR} {L L' : Nat} (hR : XR R L L') {w : Nat → Nat → Int} (hw : ∀ i j, 1 ≤ i → i < 13 → 1 ≤ j → j < 13 → 0 ≤ w i j ∧ w i j ≤ 500000000000000000) :
    ∀ (N r : Nat) (I : mI) (J : mJ) (p : Nat → Nat), r ≤ 12 → 12 - r < N → (∀ j, 1 ≤ j → j < 13 → I 160 j = nI (p j)) → (∀ i j, 1 ≤ i → i < 13 → 1 ≤ j → j < 13 → wv J i j = w i j) → pB w r p (uv J) (vv J) →
    ∃ (I' : mI) (J' : mJ) (p' : Nat → Nat), f_X4_settle_L41 kX 131 R N (nI (r + 1)) I J = some (I', J') ∧ (∀ j, 1 ≤ j → j < 13 → I' 160 j = nI (p' j)) ∧ (∀ i j, 1 ≤ i → i < 13 → 1 ≤ j → j < 13 → wv J' i j = w i j) ∧ pB w 12 p' (uv J') (vv J') ∧ (∀ a k, a ≠ 160 → a ≠ 164 → a ≠ 165 → I' a k = I a k) ∧ (∀ a k, a ≠ 161 → a ≠ 162 → a ≠ 163 → J' a k = J a k) := by
  intro N
  induction N with
  | zero => intro r I J p h1 h2; omega
  | succ N ih =>
    intro r I J p h1 h2 h3 h4 h5
    rw [f_X4_settle_L41]
    by_cases hr : r = 12
    · subst hr
      rw [if_pos ge13']
      exact ⟨I, J, p, rfl, h3, h4, h5, fun _ _ _ _ _ => rfl, fun _ _ _ _ _ => rfl⟩
    · rw [if_neg (ge13 (by omega)), if_pos k131]
      obtain ⟨I', J', p', o1, o2, o3, o4, o5, o6⟩ := h_place hR (show r < 12 by omega) hw I J p h3 h4 h5
      rw [o1, Option.bind_some, nI_s1]
      obtain ⟨I2, J2, p2, q1, q2, q3, q4, q5, q6⟩ := ih (r + 1) I' J' p' (by omega) (by omega) o2 o3 o4
      exact ⟨I2, J2, p2, q1, q2, q3, q4, fun a k e1 e2 e3 => by rw [q5 a k e1 e2 e3, o5 a k e1 e2 e3], fun a k e1 e2 e3 => by rw [q6 a k e1 e2 e3, o6 a k e1 e2 e3]⟩
