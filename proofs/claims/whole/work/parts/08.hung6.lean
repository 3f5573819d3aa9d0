/-- a name or none: 0 is none, m + 1 is m -/
def nmI (x : Nat) : Int32 := if x = 0 then -1 else nI (x - 1)
def rdO (P : Nat → Nat → Nat) (p : Nat → Nat) (I : mI) (c : Nat) (I' : mI) : Prop := (∀ a k, a ≠ 145 → ¬ (a = 131 ∧ k = 2) → I' a k = I a k) ∧ (∀ c', 1 ≤ c' → c' < c → 0 < P (p c' - 1) (c' - 1) → I' 145 (p c' - 1) = nI (c' - 1)) ∧ (∀ b, b < 12 → (∀ c', 1 ≤ c' → c' < c → p c' = b + 1 → P b (c' - 1) = 0) → I' 145 b = -1) ∧ I' 131 2 = nI (fb_sm (fun i => P (p (i + 1) - 1) i) (c - 1))
theorem h_readOff_L28 {R : mR} {L L' : Nat} (hR : XR R L L') (P : Nat → Nat → Nat) (p : Nat → Nat) (I : mI) (J : mJ) (hP : ∀ b m, b < 12 → m < 12 → I (133 + b) m = nI (P b m) ∧ P b m ≤ 21000) (hp : ∀ c, 1 ≤ c → c < 13 → I 160 c = nI (p c) ∧ 1 ≤ p c ∧ p c ≤ 12) (hi : ∀ c c', 1 ≤ c → c < 13 → 1 ≤ c' → c' < 13 → p c = p c' → c = c') :
    ∀ (N c : Nat) (I' : mI), 1 ≤ c → c ≤ 13 → 13 - c < N → rdO P p I c I' → ∃ I'', f_X4_readOff_L28 kX 131 J R N (nI c) I' = some I'' ∧ rdO P p I 13 I'' := by
  obtain ⟨r0, r1, -, r4, -, -, -, -, -⟩ := hR.p
  intro N
  induction N with
  | zero => intro c I' h0 h1 h2; omega
  | succ N ih =>
    intro c I' h0 h1 h2 h3
    rw [f_X4_readOff_L28]
    by_cases hc : c = 13
    · subst hc
      exact ⟨I', by rw [if_pos ge13'], h3⟩
    · have hc : c < 13 := by omega
      obtain ⟨g1, g2, g3, g4⟩ := id h3
      obtain ⟨p1, p2, p3⟩ := hp c h0 hc
      have hb : p c - 1 < 12 := by omega
      obtain ⟨q1, q2⟩ := hP (p c - 1) (c - 1) hb (by omega)
      rw [if_neg (ge13 hc), if_pos k131, r4, Option.bind_some, if_pos (mIx_of k160 hc (by decide)), nI_c (show c < 2 ^ 31 by omega), g1 160 c (by decide) (by omega), p1, nI_m1 (by omega), if_neg (nI_pos (by omega)), r0, Option.bind_some, if_pos (mIx_of k132 hb (by decide)), nI_c (show p c - 1 < 2 ^ 31 by omega), hR.pts hb, Option.bind_some, nI_m1 (by omega), if_pos (mIx_of (KX_pts _ hb) (show c - 1 < 12 by omega) (by decide)), nI_c (show c - 1 < 2 ^ 31 by omega), g1 (133 + (p c - 1)) _ (by omega) (by omega), q1, nI_s1]
      have sm : fb_sm (fun i => P (p (i + 1) - 1) i) (c + 1 - 1) = fb_sm (fun i => P (p (i + 1) - 1) i) (c - 1) + P (p c - 1) (c - 1) := by
        rw [show c + 1 - 1 = (c - 1) + 1 by omega, fb_sm_succ, show c - 1 + 1 = c by omega]
      by_cases h9 : P (p c - 1) (c - 1) = 0
      · rw [h9, if_pos (by decide)]
        refine ih (c + 1) I' (by omega) (by omega) (by omega) ⟨g1, fun c' e1 e2 e3 => ?_, fun b e1 e2 => g3 b e1 (fun c' k1 k2 k3 => e2 c' k1 (by omega) k3), ?_⟩
        · by_cases e : c' = c
          · rw [e, h9] at e3; omega
          · exact g2 c' e1 (by omega) e3
        · rw [sm, h9, g4]; rfl
      · rw [if_neg (nI_nle (by omega) (by omega)), r1, Option.bind_some, if_pos (mIx_of k145 hb (by decide)), Option.bind_some, Option.bind_some]
        refine ih (c + 1) _ (by omega) (by omega) (by omega) ⟨fun a k e1 e2 => ?_, fun c' e1 e2 e3 => ?_, fun b e1 e2 => ?_, ?_⟩
        · rw [mup_ne _ _ e2, mup_ne _ _ (fun z => e1 z.1)]; exact g1 a k e1 e2
        · rw [mup_ne _ _ (by omega)]
          by_cases e : c' = c
          · rw [e, mup_eq]
          · rw [mup_ne _ _ (fun z => by
              have k1 := hp c' e1 (by omega)
              have := hi c' c e1 (by omega) h0 hc (by omega)
              exact e this)]
            exact g2 c' e1 (by omega) e3
        · rw [mup_ne _ _ (by omega), mup_ne _ _ (fun z => by
            have := e2 c h0 (by omega) (by omega)
            rw [z.2] at this
            exact h9 this)]
          exact g3 b e1 (fun c' k1 k2 k3 => e2 c' k1 (by omega) k3)
        · rw [mup_eq, mup_ne _ _ (by omega), mup_ne _ _ (by omega), g4, g1 (133 + (p c - 1)) _ (by omega) (by omega), q1, nI_add, sm]
theorem si_perm {c p : Nat → Nat} (hc : ∀ b, b < 12 → 1 ≤ c b ∧ c b < 13 ∧ p (c b) = b + 1) (hp : ∀ j, 1 ≤ j → j < 13 → 1 ≤ p j ∧ p j ≤ 12) (hi : ∀ j k, 1 ≤ j → j < 13 → 1 ≤ k → k < 13 → p j = p k → j = k) (G : Nat → Nat) : fb_sm (fun b => G (c b - 1)) 12 = fb_sm G 12 := by
  have cinj : ∀ b b', b < 12 → b' < 12 → c b = c b' → b = b' := fun b b' e1 e2 e => by
    have q1 := (hc b e1).2.2
    have q2 := (hc b' e2).2.2
    rw [e] at q1
    omega
  have s1 := si_inj 12 12 c (fun j => (G j : Int)) (fun j _ => Int.natCast_nonneg _) (fun b hb => by have := hc b hb; omega) (fun b b' e1 e2 _ e => cinj b b' e1 e2 e)
  have e1 : fb_si (fun i => if c i = 0 then 0 else ((G (c i - 1) : Nat) : Int)) 12 = fb_si (fun b => ((G (c b - 1) : Nat) : Int)) 12 := fb_si_cong (fun b hb => by rw [if_neg (by have := hc b hb; omega)])
  have s2 := si_inj 12 12 (fun j => p (j + 1)) (fun b => (G (c b - 1) : Int)) (fun j _ => Int.natCast_nonneg _) (fun j hj => (hp (j + 1) (by omega) (by omega)).2) (fun j j' e1 e2 _ e => by
    have := hi (j + 1) (j' + 1) (by omega) (by omega) (by omega) (by omega) e
    omega)
  have e2 : fb_si (fun i => if p (i + 1) = 0 then 0 else ((G (c (p (i + 1) - 1) - 1) : Nat) : Int)) 12 = fb_si (fun j => ((G j : Nat) : Int)) 12 := fb_si_cong (fun j hj => by
    have q1 := hp (j + 1) (by omega) (by omega)
    rw [if_neg (by omega)]
    have q2 := hc (p (j + 1) - 1) (by omega)
    have := hi (c (p (j + 1) - 1)) (j + 1) q2.1 q2.2.1 (by omega) (by omega) (by rw [q2.2.2]; omega)
    rw [this, show j + 1 - 1 = j by omega])
  have s1' : fb_si (fun b => ((G (c b - 1) : Nat) : Int)) 12 ≤ fb_si (fun j => ((G j : Nat) : Int)) 12 := by rw [← e1]; exact s1
  have s2' : fb_si (fun j => ((G j : Nat) : Int)) 12 ≤ fb_si (fun b => ((G (c b - 1) : Nat) : Int)) 12 := by rw [← e2]; exact s2
  have t1 := fb_si_nat (fun b => G (c b - 1)) 12
  have t2 := fb_si_nat G 12
  omega
theorem h_settle {R : mR} {L L' : Nat} (hR : XR R L L') (P : Nat → Nat → Nat) (I : mI) (J : mJ) (hP : ∀ b m, b < 12 → m < 12 → I (133 + b) m = nI (P b m) ∧ P b m ≤ 21000) :
    ∃ (I' : mI) (J' : mJ) (μ : Nat → Nat), f_X4_settle kX 131 I J R = some (I', J') ∧ (∀ b, b < 12 → I' 145 b = nmI (μ b) ∧ μ b ≤ 12 ∧ (μ b ≠ 0 → 0 < P b (μ b - 1))) ∧ (∀ b b', b < 12 → b' < 12 → μ b ≠ 0 → μ b = μ b' → b = b') ∧ I' 131 2 = nI (fb_sm (fun b => if μ b = 0 then 0 else P b (μ b - 1)) 12) ∧
      (∀ τ : Nat → Nat, (∀ b, b < 12 → τ b ≤ 12) → (∀ b b', b < 12 → b' < 12 → τ b ≠ 0 → τ b = τ b' → b = b') → fb_sm (fun b => if τ b = 0 then 0 else wN P b (τ b)) 12 ≤ fb_sm (fun b => if μ b = 0 then 0 else wN P b (μ b)) 12) ∧
      (∀ a k, a ≠ 145 → a ≠ 160 → a ≠ 164 → a ≠ 165 → ¬ (a = 131 ∧ k = 2) → I' a k = I a k) := by
  have hL6 := h_settle_L6 hR I (apJ P J 12) 8192 0 (by decide) (by decide)
  rw [rowU_0, rowU_0, rowU_0] at hL6
  rw [f_X4_settle, if_pos k131, h_app hR P I hP J, Option.bind_some, show (0 : Int32) = nI 0 from rfl, hL6, Option.bind_some]
  dsimp only
  generalize hI1 : rowU I 160 0 13 (fun _ => 0) = I1
  generalize hJ1 : rowU (rowU (apJ P J 12) 161 0 13 (fun _ => 0)) 162 0 13 (fun _ => 0) = J1
  have hwj : ∀ i j, 1 ≤ i → i < 13 → 1 ≤ j → j < 13 → wv J1 i j = ((wN P (i - 1) j : Nat) : Int) := fun i j h1 h2 h3 h4 => by
    unfold wv
    have hb := wN_le (P := P) (b := i - 1) (c := j) (by omega) (hP (i - 1) (j - 1) (by omega) (by omega)).2 h3
    rw [← hJ1, rowU_ne (by omega), rowU_ne (by omega)]
    simp only [apJ]
    rw [if_pos (by omega), show 147 + i - 148 = i - 1 by omega, pk_lT (by omega)]
  have hw : ∀ i j, 1 ≤ i → i < 13 → 1 ≤ j → j < 13 → 0 ≤ ((wN P (i - 1) j : Nat) : Int) ∧ ((wN P (i - 1) j : Nat) : Int) ≤ 500000000000000000 := fun i j h1 h2 h3 h4 => by
    have hb := wN_le (P := P) (b := i - 1) (c := j) (by omega) (hP (i - 1) (j - 1) (by omega) (by omega)).2 h3
    omega
  have u1 : ∀ i, i < 13 → uv J1 i = 0 := fun i hi => by
    unfold uv
    rw [← hJ1, rowU_ne (by decide), rowU_in (by omega) hi]
    rfl
  have v1 : ∀ i, i < 13 → vv J1 i = 0 := fun i hi => by
    unfold vv
    rw [← hJ1, rowU_in (by omega) hi]
    rfl
  have hB : pB (fun i j => ((wN P (i - 1) j : Nat) : Int)) 0 (fun _ => 0) (uv J1) (vv J1) := ⟨fun _ _ _ => Nat.le_refl 0, fun _ _ _ _ _ _ h => absurd rfl h, fun i h1 h2 => by omega, fun i j h1 h2 => by omega, fun _ _ _ h => absurd rfl h, fun j h1 h2 => ⟨by rw [v1 j h2]; decide, fun _ => v1 j h2⟩, fun i h1 h2 => u1 i h2, ⟨1, by decide, by decide, v1 1 (by decide)⟩⟩
  obtain ⟨I2, J2, p, o1, o2, o3, o4, o5, o6⟩ := h_settle_L41 hR hw 8192 0 I1 J1 (fun _ => 0) (by decide) (by decide) (fun j h1 h2 => by rw [← hI1, rowU_in (by omega) h2]; rfl) hwj hB
  rw [show (1 : Int32) = nI (0 + 1) from rfl, o1, Option.bind_some]
  dsimp only
  have dual := p_dual o4 hw
  obtain ⟨a1, a2, a3, -⟩ := id o4
  have pn := (dual (fun _ => 0) (fun _ _ => by decide) (fun _ _ _ _ h => absurd rfl h)).2
  have hp : ∀ j, 1 ≤ j → j < 13 → 1 ≤ p j ∧ p j ≤ 12 := fun j h1 h2 => ⟨by have := pn j h1 h2; omega, a1 j h1 h2⟩
  have hi : ∀ j k, 1 ≤ j → j < 13 → 1 ≤ k → k < 13 → p j = p k → j = k := fun j k h1 h2 h3 h4 h5 => a2 j k h1 h2 h3 h4 (pn j h1 h2) h5
  have hc : ∃ c : Nat → Nat, ∀ b, b < 12 → 1 ≤ c b ∧ c b < 13 ∧ p (c b) = b + 1 := by
    have : ∀ b, ∃ c, b < 12 → 1 ≤ c ∧ c < 13 ∧ p c = b + 1 := fun b => by
      by_cases hb : b < 12
      · obtain ⟨j, j1⟩ := a3 (b + 1) (by omega) (by omega)
        exact ⟨j, fun _ => j1⟩
      · exact ⟨0, fun h => absurd h hb⟩
    exact ⟨fun b => (this b).choose, fun b hb => (this b).choose_spec hb⟩
  obtain ⟨c, hc⟩ := hc
  have hn : ∀ a k, a ≠ 160 → a ≠ 164 → a ≠ 165 → I2 a k = I a k := fun a k h1 h2 h3 => by rw [o5 a k h1 h2 h3, ← hI1, rowU_ne h1]
  -- reading off
  generalize hI3 : rowU (mup I2 131 2 0) 145 0 12 (fun _ => -1) = I3
  have n3 : ∀ a k, a ≠ 145 → ¬ (a = 131 ∧ k = 2) → I3 a k = I2 a k := fun a k h1 h2 => by rw [← hI3, rowU_ne h1, mup_ne _ _ h2]
  have hP3 : ∀ b m, b < 12 → m < 12 → I3 (133 + b) m = nI (P b m) ∧ P b m ≤ 21000 := fun b m h1 h2 => ⟨by rw [n3 _ _ (by omega) (by omega), hn _ _ (by omega) (by omega) (by omega)]; exact (hP b m h1 h2).1, (hP b m h1 h2).2⟩
  obtain ⟨I4, q1, q2, q3, q4, q5⟩ := h_readOff_L28 hR P p I3 J2 hP3 (fun j h1 h2 => ⟨by rw [n3 _ _ (by decide) (by omega)]; exact o2 j h1 h2, hp j h1 h2⟩) hi 8192 1 I3 (by decide) (by decide) (by decide) ⟨fun _ _ _ _ => rfl, fun c' e1 e2 => by omega, fun b e1 _ => by rw [← hI3, rowU_in (by omega) e1], by rw [← hI3, rowU_ne (by decide), mup_eq]; rfl⟩
  have hL7 := h_readOff_L7 hR (mup I2 131 2 0) J2 8192 0 (by decide) (by decide)
  rw [rowU_0] at hL7
  rw [f_X4_readOff, if_pos k131, Option.bind_some, show (0 : Int32) = nI 0 from rfl, show mup I2 131 2 (nI 0) = mup I2 131 2 0 from rfl, hL7, Option.bind_some, hI3, show (1 : Int32) = nI 1 from rfl, q1, Option.bind_some, Option.bind_some]
  refine ⟨I4, J2, fun b => if P b (c b - 1) = 0 then 0 else c b, rfl, fun b hb => ?_, fun b b' hb hb' h1 h2 => ?_, ?_, fun τ t1 t2 => ?_, fun a k e1 e2 e3 e4 e5 => by rw [q2 a k e1 e5, n3 a k e1 e5, hn a k e2 e3 e4]⟩
  · have k1 := hc b hb
    by_cases h0 : P b (c b - 1) = 0
    · simp only [h0, if_true]
      refine ⟨?_, by decide, fun h => absurd rfl h⟩
      rw [q4 b hb (fun c' e1 e2 e3 => by
        have := hi c' (c b) e1 e2 k1.1 k1.2.1 (by rw [e3, k1.2.2])
        rw [this]; exact h0)]
      rfl
    · simp only [h0, if_false]
      refine ⟨?_, by omega, fun _ => by omega⟩
      have := q3 (c b) k1.1 k1.2.1 (by rw [k1.2.2, show b + 1 - 1 = b by omega]; omega)
      rw [k1.2.2, show b + 1 - 1 = b by omega] at this
      rw [this]
      unfold nmI
      rw [if_neg (by omega)]
  · have k1 := hc b hb
    have k2 := hc b' hb'
    by_cases h3 : P b (c b - 1) = 0
    · simp only [h3, if_true] at h1; exact absurd rfl h1
    · simp only [h3, if_false] at h1 h2
      by_cases h4 : P b' (c b' - 1) = 0
      · simp only [h4, if_true] at h2; omega
      · simp only [h4, if_false] at h2
        have := k1.2.2
        rw [h2, k2.2.2] at this
        omega
  · rw [q5, show 13 - 1 = 12 from rfl, ← si_perm hc hp hi (fun i => P (p (i + 1) - 1) i)]
    refine congrArg nI (fb_sm_cong (fun b hb => ?_))
    have k1 := hc b hb
    show P (p (c b - 1 + 1) - 1) (c b - 1) = _
    rw [show c b - 1 + 1 = c b by omega, k1.2.2, show b + 1 - 1 = b by omega]
    by_cases h0 : P b (c b - 1) = 0
    · simp only [h0, if_true]
    · simp only [h0, if_false]
      rw [if_neg (by omega)]
  · have d := (dual τ t1 t2).1
    have e1 : fb_si (fun b => if τ b = 0 then 0 else (fun i j => ((wN P (i - 1) j : Nat) : Int)) (b + 1) (τ b)) 12 = fb_si (fun b => (((if τ b = 0 then 0 else wN P b (τ b)) : Nat) : Int)) 12 := fb_si_cong (fun b hb => by
      by_cases h0 : τ b = 0
      · rw [if_pos h0, if_pos h0]; rfl
      · rw [if_neg h0, if_neg h0]
        show ((wN P (b + 1 - 1) (τ b) : Nat) : Int) = _
        rw [show b + 1 - 1 = b by omega])
    have d' : fb_si (fun b => (((if τ b = 0 then 0 else wN P b (τ b)) : Nat) : Int)) 12 ≤ fb_si (fun j => ((wN P (p (j + 1) - 1) (j + 1) : Nat) : Int)) 12 := by rw [← e1]; exact d
    rw [fb_si_nat (fun b => if τ b = 0 then 0 else wN P b (τ b)) 12, fb_si_nat (fun j => wN P (p (j + 1) - 1) (j + 1)) 12, ← si_perm hc hp hi (fun j => wN P (p (j + 1) - 1) (j + 1))] at d'
    have e2 : fb_sm (fun b => (fun j => wN P (p (j + 1) - 1) (j + 1)) (c b - 1)) 12 = fb_sm (fun b => if (fun b => if P b (c b - 1) = 0 then 0 else c b) b = 0 then 0 else wN P b ((fun b => if P b (c b - 1) = 0 then 0 else c b) b)) 12 := fb_sm_cong (fun b hb => by
      have k1 := hc b hb
      show wN P (p (c b - 1 + 1) - 1) (c b - 1 + 1) = if (if P b (c b - 1) = 0 then 0 else c b) = 0 then 0 else wN P b (if P b (c b - 1) = 0 then 0 else c b)
      rw [show c b - 1 + 1 = c b by omega, k1.2.2, show b + 1 - 1 = b by omega]
      by_cases h0 : P b (c b - 1) = 0
      · rw [if_pos h0]
        simp only [if_true]
        unfold wN
        rw [if_pos h0]
      · rw [if_neg h0, if_neg (by omega)])
    have d2 := Int.ofNat_le.mp d'
    exact Nat.le_trans d2 (Nat.le_of_eq e2)
