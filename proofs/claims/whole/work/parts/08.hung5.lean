/-! ===== sums over a pairing; the prices bound every pairing ===== -/
theorem si_inj : ∀ (k n : Nat) (φ : Nat → Nat) (f : Nat → Int), (∀ j, j < n → 0 ≤ f j) → (∀ i, i < k → φ i ≤ n) → (∀ i i', i < k → i' < k → φ i ≠ 0 → φ i = φ i' → i = i') → fb_si (fun i => if φ i = 0 then 0 else f (φ i - 1)) k ≤ fb_si f n
  | 0, n, φ, f, hf, h1, h2 => by
    show 0 ≤ fb_si f n
    have := fb_si_nn f n hf
    exact this
  | k + 1, n, φ, f, hf, h1, h2 => by
    rw [fb_si_succ]
    by_cases hk : φ k = 0
    · rw [if_pos hk]
      have := si_inj k n φ f hf (fun i hi => h1 i (by omega)) (fun i i' a b => h2 i i' (by omega) (by omega))
      omega
    · rw [if_neg hk]
      have hlt : φ k - 1 < n := by have := h1 k (by omega); omega
      have ih := si_inj k n φ (fun j => if j = φ k - 1 then 0 else f j) (fun j hj => by
        show 0 ≤ if j = φ k - 1 then 0 else f j
        split
        · exact Int.le_refl 0
        · exact hf j hj) (fun i hi => h1 i (by omega)) (fun i i' a b => h2 i i' (by omega) (by omega))
      have e := fb_si_upd f 0 (i := φ k - 1) (n := n) hlt
      rw [e] at ih
      have e2 : fb_si (fun i => if φ i = 0 then 0 else (fun j => if j = φ k - 1 then 0 else f j) (φ i - 1)) k = fb_si (fun i => if φ i = 0 then 0 else f (φ i - 1)) k := fb_si_cong (fun i hi => by
        by_cases h0 : φ i = 0
        · rw [if_pos h0, if_pos h0]
        · rw [if_neg h0, if_neg h0]
          show (if φ i - 1 = φ k - 1 then 0 else f (φ i - 1)) = f (φ i - 1)
          rw [if_neg (fun e => by
            have := h2 i k (by omega) (by omega) h0 (by omega)
            omega)])
      rw [e2] at ih
      omega
where
  fb_si_nn (f : Nat → Int) : ∀ n, (∀ j, j < n → 0 ≤ f j) → 0 ≤ fb_si f n
    | 0, _ => Int.le_refl 0
    | n + 1, h => by
      rw [fb_si_succ]
      have := fb_si_nn f n (fun j hj => h j (by omega))
      have := h n (by omega)
      omega
theorem si_le {f g : Nat → Int} : ∀ {n : Nat}, (∀ k, k < n → f k ≤ g k) → fb_si f n ≤ fb_si g n
  | 0, _ => Int.le_refl 0
  | n + 1, h => by
    rw [fb_si_succ, fb_si_succ]
    have := si_le (n := n) (fun k hk => h k (by omega))
    have := h n (by omega)
    omega
theorem p_dual {w : Nat → Nat → Int} {p : Nat → Nat} {u v : Nat → Int} (hB : pB w 12 p u v) (hw : ∀ i j, 1 ≤ i → i < 13 → 1 ≤ j → j < 13 → 0 ≤ w i j ∧ w i j ≤ 500000000000000000) (τ : Nat → Nat) (h1 : ∀ b, b < 12 → τ b ≤ 12) (h2 : ∀ b b', b < 12 → b' < 12 → τ b ≠ 0 → τ b = τ b' → b = b') : fb_si (fun b => if τ b = 0 then 0 else w (b + 1) (τ b)) 12 ≤ fb_si (fun j => w (p (j + 1)) (j + 1)) 12 ∧ ∀ j, 1 ≤ j → j < 13 → p j ≠ 0 := by
  have hu := (p_Bv hB (by decide) hw).1
  obtain ⟨a1, a2, a3, a4, a5, a6, a7, a8⟩ := hB
  -- the column of a row
  have hc : ∃ c : Nat → Nat, ∀ b, b < 12 → 1 ≤ c b ∧ c b < 13 ∧ p (c b) = b + 1 := by
    have : ∀ b, ∃ c, b < 12 → 1 ≤ c ∧ c < 13 ∧ p c = b + 1 := fun b => by
      by_cases hb : b < 12
      · obtain ⟨j, j1⟩ := a3 (b + 1) (by omega) (by omega)
        exact ⟨j, fun _ => j1⟩
      · exact ⟨0, fun h => absurd h hb⟩
    exact ⟨fun b => (this b).choose, fun b hb => (this b).choose_spec hb⟩
  obtain ⟨c, hc⟩ := hc
  have cinj : ∀ b b', b < 12 → b' < 12 → c b = c b' → b = b' := fun b b' e1 e2 e => by
    have q1 := (hc b e1).2.2
    have q2 := (hc b' e2).2.2
    rw [e] at q1
    omega
  have ponto : ∀ j, 1 ≤ j → j < 13 → p j ≠ 0 := fun j j1 j2 => by
    obtain ⟨b, b1, b2⟩ := fb_onto (n := 12) (f := fun b => c b - 1) (fun b hb => by have := hc b hb; show c b - 1 < 12; omega) (fun i i' hii hi' e => by
      have e : c i - 1 = c i' - 1 := e
      have q1 := hc i (by omega)
      have q2 := hc i' hi'
      have := cinj i i' (by omega) hi' (by omega)
      omega) (y := j - 1) (by omega)
    have q1 := hc b b1
    have b2 : c b - 1 = j - 1 := b2
    have : j = c b := by omega
    rw [this, q1.2.2]
    omega
  refine ⟨?_, ponto⟩
  have s1 : fb_si (fun b => if τ b = 0 then 0 else w (b + 1) (τ b)) 12 ≤ fb_si (fun b => (-(u (b + 1))) + (if τ b = 0 then 0 else -(v (τ b - 1 + 1)))) 12 := si_le (fun b hb => by
    have q3 := hu (b + 1) (by omega) (by omega)
    by_cases h0 : τ b = 0
    · simp only [h0, if_true]; omega
    · simp only [h0, if_false]
      have q1 := h1 b hb
      have q2 := a4 (b + 1) (τ b) (by omega) (by omega) (by omega) (by omega)
      simp only [psl] at q2
      rw [show τ b - 1 + 1 = τ b by omega]
      omega)
  rw [fb_si_add] at s1
  have s2 := si_inj 12 12 τ (fun j => -(v (j + 1))) (fun j hj => by have := (a6 (j + 1) (by omega) (by omega)).1; show 0 ≤ -(v (j + 1)); omega) h1 h2
  have s3 := si_inj 12 12 c (fun j => -(u (p (j + 1)))) (fun j hj => by
    have q1 := ponto (j + 1) (by omega) (by omega)
    have := hu (p (j + 1)) (by omega) (a1 (j + 1) (by omega) (by omega))
    show 0 ≤ -(u (p (j + 1)))
    omega) (fun b hb => by have := hc b hb; omega) (fun b b' e1 e2 _ e => cinj b b' e1 e2 e)
  have s4 : fb_si (fun i => if c i = 0 then 0 else (fun j => -(u (p (j + 1)))) (c i - 1)) 12 = fb_si (fun b => -(u (b + 1))) 12 := fb_si_cong (fun b hb => by
    have q1 := hc b hb
    rw [if_neg (by omega)]
    show -(u (p (c b - 1 + 1))) = _
    rw [show c b - 1 + 1 = c b by omega, q1.2.2])
  rw [s4] at s3
  have s5 : fb_si (fun j => w (p (j + 1)) (j + 1)) 12 = fb_si (fun j => (-(u (p (j + 1)))) + (-(v (j + 1)))) 12 := fb_si_cong (fun j hj => by
    have q1 := a5 (j + 1) (by omega) (by omega) (ponto (j + 1) (by omega) (by omega))
    simp only [psl] at q1
    show w (p (j + 1)) (j + 1) = _
    omega)
  rw [s5, fb_si_add]
  omega
/-! ===== appraise ===== -/
def wN (P : Nat → Nat → Nat) (b c : Nat) : Nat := if P b (c - 1) = 0 then 0 else P b (c - 1) * 23298085122481 + (13 - c) * 13 ^ (11 - b)
theorem pow13 : ∀ b, b < 13 → 13 ^ (12 - b) ≤ 23298085122481 := by decide
theorem wN_le {P : Nat → Nat → Nat} {b c : Nat} (hb : b < 12) (h : P b (c - 1) ≤ 21000) (hc : 1 ≤ c) : wN P b c ≤ 500000000000000000 := by
  unfold wN
  split
  · decide
  · have h1 : 13 ^ (11 - b) ≤ 1792160394037 := by
      have : ∀ b, b < 12 → 13 ^ (11 - b) ≤ 1792160394037 := by decide
      exact this b hb
    have h2 : (13 - c) * 13 ^ (11 - b) ≤ 12 * 1792160394037 := Nat.mul_le_mul (by omega) h1
    have h3 : P b (c - 1) * 23298085122481 ≤ 21000 * 23298085122481 := Nat.mul_le_mul_right _ h
    exact Nat.le_trans (Nat.add_le_add h3 h2) (by decide)
def apJ (P : Nat → Nat → Nat) (J : mJ) (b : Nat) : mJ := fun a k => if 148 ≤ a ∧ a < 148 + b ∧ 1 ≤ k ∧ k < 13 then lN (wN P (a - 148) k) else J a k
theorem apJ_0 (P : Nat → Nat → Nat) (J : mJ) : apJ P J 0 = J := by
  funext a k
  simp only [apJ]
  rw [if_neg (by omega)]
theorem apJ_s (P : Nat → Nat → Nat) (J : mJ) (b : Nat) : rowU (apJ P J b) (148 + b) 1 13 (fun k => lN (wN P b k)) = apJ P J (b + 1) := by
  funext a k
  simp only [apJ, rowU]
  by_cases h1 : a = 148 + b ∧ 1 ≤ k ∧ k < 13
  · rw [if_pos h1, if_pos (by omega), show a - 148 = b by omega]
  · rw [if_neg h1]
    by_cases h2 : 148 ≤ a ∧ a < 148 + b ∧ 1 ≤ k ∧ k < 13
    · rw [if_pos h2, if_pos (by omega)]
    · rw [if_neg h2, if_neg (by omega)]
theorem h_app_L21 {R : mR} {L L' : Nat} (hR : XR R L L') (P : Nat → Nat → Nat) (I : mI) (hP : ∀ b m, b < 12 → m < 12 → I (133 + b) m = nI (P b m) ∧ P b m ≤ 21000) (b : Nat) (hb : b < 12) (J : mJ) : ∀ (N m : Nat), m ≤ 12 → 12 - m < N → f_X4_appraise_L21 kX 131 (lN (13 ^ (11 - b))) (nI b) I R N (nI m) (rowU J (148 + b) 1 (m + 1) (fun k => lN (wN P b k))) = some (rowU J (148 + b) 1 13 (fun k => lN (wN P b k))) := by
  obtain ⟨r0, -, r3, -, -, -, -, -, -⟩ := hR.p
  intro N
  induction N with
  | zero => intro m h1 h2; omega
  | succ N ih =>
    intro m h1 h2
    rw [f_X4_appraise_L21]
    by_cases hm : m = 12
    · subst hm
      rw [if_pos ge12']
    · have hm : m < 12 := by omega
      obtain ⟨p1, p2⟩ := hP b m hb hm
      have ih' := ih (m + 1) (by omega) (by omega)
      have kw : kX (148 + b) = (4, 13) := by
        have := KX_wor (b + 1) (by omega)
        rwa [show 147 + (b + 1) = 148 + b by omega] at this
      have rw1 : R 146 (b + 1) = some (148 + b) := by
        have := hR.wor (show b + 1 < 13 by omega)
        rwa [show 147 + (b + 1) = 148 + b by omega] at this
      rw [if_neg (ge12 hm), if_pos k131, r0, Option.bind_some, if_pos (mIx_of k132 hb (by decide)), nI_c (show b < 2 ^ 31 by omega), hR.pts hb, Option.bind_some, if_pos (mIx_of (KX_pts b hb) hm (by decide)), r3, Option.bind_some, nI_s1, if_pos (mIx_of k146 (show b + 1 < 13 by omega) (by decide)), nI_c (show b + 1 < 2 ^ 31 by omega), rw1, Option.bind_some, nI_c (show m < 2 ^ 31 by omega), nI_s1, if_pos (mIx_of kw (show m + 1 < 13 by omega) (by decide)), nI_c (show m + 1 < 2 ^ 31 by omega), p1]
      by_cases h0 : P b m = 0
      · rw [h0, if_pos (by decide), Option.bind_some, rowU_s (by omega) (by
          show (0 : Int64) = lN (wN P b (m + 1))
          unfold wN
          rw [show m + 1 - 1 = m by omega, if_pos h0]
          rfl)]
        try rw [if_pos (mIx_of kw (show m + 1 < 13 by omega) (by decide))]
        exact ih'
      · rw [if_neg (nI_nle (by omega) (by omega))]
        try rw [if_pos (mIx_of kw (show m + 1 < 13 by omega) (by decide))]
        rw [Option.bind_some, rowU_s (by omega) (by
          show _ = lN (wN P b (m + 1))
          unfold wN
          rw [show m + 1 - 1 = m by omega, if_neg h0, show (12 : Int32) = nI 12 from rfl, pk_sub (by omega), nI_l (by omega), nI_l (by omega), show (23298085122481 : Int64) = lN 23298085122481 from rfl, lN_mul, lN_mul, lN_add, show 13 - (m + 1) = 12 - m by omega])]
        exact ih'
theorem h_app_L6 {R : mR} {L L' : Nat} (hR : XR R L L') (P : Nat → Nat → Nat) (I : mI) (hP : ∀ b m, b < 12 → m < 12 → I (133 + b) m = nI (P b m) ∧ P b m ≤ 21000) (J : mJ) : ∀ (N b : Nat), b ≤ 12 → 12 - b < N → f_X4_appraise_L6 kX 131 I R N (lN (13 ^ (12 - b))) (nI b) (apJ P J b) = some (apJ P J 12) := by
  intro N
  induction N with
  | zero => intro b h1 h2; omega
  | succ N ih =>
    intro b h1 h2
    rw [f_X4_appraise_L6]
    by_cases hb : b = 12
    · subst hb
      rw [if_pos ge12']
    · have hb : b < 12 := by omega
      have e : lN (13 ^ (12 - b)) / (13 : Int64) = lN (13 ^ (11 - b)) := by
        rw [show (13 : Int64) = lN 13 from rfl, pk_lDiv (by have := pow13 b (by omega); omega) (by decide) (by decide), show 12 - b = (11 - b) + 1 by omega, Nat.pow_succ, Nat.mul_div_cancel _ (by decide)]
      have h21 := h_app_L21 hR P I hP b hb (apJ P J b) 8192 0 (by decide) (by decide)
      rw [rowU_0] at h21
      rw [if_neg (ge12 hb), e, show (0 : Int32) = nI 0 from rfl, h21, Option.bind_some, nI_s1, apJ_s]
      have := ih (b + 1) (by omega) (by omega)
      rw [show 12 - (b + 1) = 11 - b by omega] at this
      exact this
theorem h_app {R : mR} {L L' : Nat} (hR : XR R L L') (P : Nat → Nat → Nat) (I : mI) (hP : ∀ b m, b < 12 → m < 12 → I (133 + b) m = nI (P b m) ∧ P b m ≤ 21000) (J : mJ) : f_X4_appraise kX 131 I J R = some (apJ P J 12) := by
  have h := h_app_L6 hR P I hP J 8192 0 (by decide) (by decide)
  rw [apJ_0] at h
  rw [f_X4_appraise, show (23298085122481 : Int64) = lN (13 ^ (12 - 0)) from rfl, show (0 : Int32) = nI 0 from rfl, h, Option.bind_some]
