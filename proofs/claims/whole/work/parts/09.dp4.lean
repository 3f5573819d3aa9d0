theorem g_bits {P : Nat → Nat → Nat} {nf nl : Nat} {D : Nat → Nat → Nat} {g Sg : Nat → Nat} (hg : gOk P nf nl D g Sg) : ∀ j, j ≤ nf → ∀ i, i < j → g i ≠ 0 → (Sg j).testBit (g i - 1) = true
  | 0, _, i, h, _ => absurd h (Nat.not_lt_zero i)
  | j + 1, hj, i, h, h0 => by
    rw [(hg.2 j (by omega)).2.1]
    unfold tS
    by_cases e : i = j
    · subst e
      rw [if_neg h0, fb_bit_set]
      simp
    · have ih := g_bits hg j (by omega) i (by omega) h0
      by_cases hz : g j = 0
      · rw [if_pos hz]; exact ih
      · rw [if_neg hz, fb_bit_set, ih]; rfl
theorem g_inj {P : Nat → Nat → Nat} {nf nl : Nat} {D : Nat → Nat → Nat} {g Sg : Nat → Nat} (hg : gOk P nf nl D g Sg) {i j : Nat} (hi : i < nf) (hj : j < nf) (h0 : g i ≠ 0) (e : g i = g j) : i = j := by
  have key : ∀ i j, i < j → j < nf → g i ≠ 0 → g i = g j → False := fun i j hij hj h0 e => by
    have h1 := g_bits hg j (by omega) i hij h0
    have h2 := ((hg.2 j hj).2.2.2 (by rw [← e]; exact h0)).1
    simp only [dOk, Bool.and_eq_true, Bool.not_eq_true'] at h2
    rw [e, h2.1] at h1
    cases h1
  rcases Nat.lt_trichotomy i j with h | h | h
  · exact (key i j h hj h0 e).elim
  · exact h
  · exact (key j i h hi (by rw [← e]; exact h0) e.symm).elim
theorem sm_cut {f : Nat → Nat} {n : Nat} (hn : n ≤ 12) (h : ∀ k, n ≤ k → k < 12 → f k = 0) : fb_sm f 12 = fb_sm f n := by
  have e := fb_sm_split f n (12 - n)
  rw [show n + (12 - n) = 12 by omega] at e
  have z : fb_sm (fun k => f (n + k)) (12 - n) = 0 := by
    rw [fb_sm_cong (g := fun _ => 0) (fun k hk => h (n + k) (by omega) (by omega)), fb_sm_const, Nat.mul_zero]
  omega
theorem pow12C : ∀ b, b < 13 → 13 ^ (12 - b) ≤ 23298085122481 := by decide
/-- both ways of reckoning find one pairing -/
theorem pair_same {P : Nat → Nat → Nat} {nf nl : Nat} (hn : nf ≤ 12) (hl : nl ≤ 12) (hz : ∀ b m, b < 12 → m < 12 → ¬ (b < nf ∧ m < nl) → P b m = 0) {μ : Nat → Nat} (h1 : ∀ b, b < 12 → μ b ≤ 12 ∧ (μ b ≠ 0 → 0 < P b (μ b - 1))) (h2 : ∀ b b', b < 12 → b' < 12 → μ b ≠ 0 → μ b = μ b' → b = b') (h3 : ∀ τ : Nat → Nat, (∀ b, b < 12 → τ b ≤ 12) → (∀ b b', b < 12 → b' < 12 → τ b ≠ 0 → τ b = τ b' → b = b') → fb_sm (fun b => if τ b = 0 then 0 else wN P b (τ b)) 12 ≤ fb_sm (fun b => if μ b = 0 then 0 else wN P b (μ b)) 12) {g Sg : Nat → Nat} {D : Nat → Nat → Nat} (hD : dTab P nf nl D) (hg : gOk P nf nl D g Sg) :
    (∀ b, b < 12 → μ b = if b < nf then g b else 0) ∧ fb_sm (fun b => if μ b = 0 then 0 else P b (μ b - 1)) 12 = D 0 0 := by
  have mz : ∀ b, b < 12 → ¬ b < nf → μ b = 0 := fun b hb hnf => by
    by_cases e : μ b = 0
    · exact e
    · have q := h1 b hb
      have := hz b (μ b - 1) hb (by omega) (fun z => hnf z.1)
      have := q.2 e
      omega
  have ml : ∀ b, b < 12 → μ b ≤ nl := fun b hb => by
    by_cases e : μ b = 0
    · omega
    · have q := h1 b hb
      by_cases h : μ b ≤ nl
      · exact h
      · have := hz b (μ b - 1) hb (by omega) (fun z => by omega)
        have := q.2 e
        omega
  have gp : ∀ b, b < nf → g b ≠ 0 → 0 < P b (g b - 1) := fun b hb h0 => by
    have h2 := ((hg.2 b hb).2.2.2 h0).1
    simp only [dOk, Bool.and_eq_true, decide_eq_true_eq] at h2
    exact h2.2
  have wv1 : ∀ τ : Nat → Nat, ∀ b, (τ b ≠ 0 → 0 < P b (τ b - 1)) → (if τ b = 0 then 0 else wN P b (τ b)) = tP P τ b * 23298085122481 + tD τ b := fun τ b hp => by
    unfold tP tD wN
    by_cases e : τ b = 0
    · rw [if_pos e, if_pos e, if_pos e, Nat.zero_mul]
    · rw [if_neg e, if_neg e, if_neg e, if_neg (by have := hp e; omega)]
  have opt := h3 (fun b => if b < nf then g b else 0) (fun b hb => by
    show (if b < nf then g b else 0) ≤ 12
    split
    · rename_i h; have := (hg.2 b h).1; omega
    · exact Nat.zero_le _) (fun b b' hb hb' e1 e2 => by
    have e1 : (if b < nf then g b else 0) ≠ 0 := e1
    have e2 : (if b < nf then g b else 0) = (if b' < nf then g b' else 0) := e2
    by_cases k1 : b < nf
    · rw [if_pos k1] at e1 e2
      by_cases k2 : b' < nf
      · rw [if_pos k2] at e2; exact g_inj hg k1 k2 e1 e2
      · rw [if_neg k2] at e2; exact absurd e2 e1
    · rw [if_neg k1] at e1; exact absurd rfl e1)
  rw [sm_cut hn (f := fun b => if (fun b => if b < nf then g b else 0) b = 0 then 0 else wN P b ((fun b => if b < nf then g b else 0) b)) (fun k k1 k2 => by simp only [show ¬ k < nf by omega, if_false, if_true]), sm_cut hn (f := fun b => if μ b = 0 then 0 else wN P b (μ b)) (fun k k1 k2 => by
    show (if μ k = 0 then 0 else wN P k (μ k)) = 0
    rw [if_pos (mz k k2 (by omega))])] at opt
  rw [fb_sm_cong (f := fun b => if (fun b => if b < nf then g b else 0) b = 0 then 0 else wN P b ((fun b => if b < nf then g b else 0) b)) (g := fun k => tP P g k * 23298085122481 + tD g k) (fun b hb => by
    simp only [hb, if_true]
    exact wv1 g b (gp b hb)), fb_sm_cong (f := fun b => if μ b = 0 then 0 else wN P b (μ b)) (g := fun k => tP P μ k * 23298085122481 + tD μ k) (fun b hb => wv1 μ b (h1 b (by omega)).2)] at opt
  have same := g_only pow12C hn hl hD hg ⟨fun i i1 i2 => ⟨ml i (by omega), fun e => ⟨(h1 i (by omega)).2 e, Nat.zero_testBit _⟩⟩, fun i j i1 i2 j1 j2 e1 e2 => h2 i j (by omega) (by omega) e1 e2⟩ opt
  refine ⟨fun b hb => ?_, ?_⟩
  · by_cases h : b < nf
    · rw [if_pos h]; exact same b h
    · rw [if_neg h]; exact mz b hb h
  · have gs := g_sum hD hg nf 0 (by omega)
    rw [hg.1] at gs
    rw [← gs, sm_cut hn (f := fun b => if μ b = 0 then 0 else P b (μ b - 1)) (fun k k1 k2 => by
      show (if μ k = 0 then 0 else P k (μ k - 1)) = 0
      rw [if_pos (mz k k2 (by omega))])]
    exact fb_sm_cong (fun b hb => by
      show (if μ b = 0 then 0 else P b (μ b - 1)) = tP P g (0 + b)
      rw [Nat.zero_add, same b hb]
      rfl)
