/-! ===== the best pairing by sets: what the reference reckons, and that its first best is the only one of the greatest worth ===== -/
/-- the best of a base and of what m below n give -/
def bst (base : Nat) (val : Nat → Nat) (ok : Nat → Bool) : Nat → Nat
  | 0 => base
  | m + 1 => if ok m = true then max (bst base val ok m) (val m) else bst base val ok m
theorem bst_base {base : Nat} {val : Nat → Nat} {ok : Nat → Bool} : ∀ n, base ≤ bst base val ok n
  | 0 => Nat.le_refl _
  | n + 1 => by
    have := bst_base (base := base) (val := val) (ok := ok) n
    simp only [bst]
    split <;> omega
theorem bst_ge {base : Nat} {val : Nat → Nat} {ok : Nat → Bool} : ∀ {n m : Nat}, m < n → ok m = true → val m ≤ bst base val ok n
  | 0, m, h, _ => absurd h (Nat.not_lt_zero m)
  | n + 1, m, h, ho => by
    simp only [bst]
    by_cases hm : m = n
    · subst hm
      rw [if_pos ho]; omega
    · have := bst_ge (base := base) (val := val) (n := n) (m := m) (by omega) ho
      split <;> omega
theorem bst_is {base : Nat} {val : Nat → Nat} {ok : Nat → Bool} : ∀ n, bst base val ok n = base ∨ ∃ m, m < n ∧ ok m = true ∧ bst base val ok n = val m
  | 0 => Or.inl rfl
  | n + 1 => by
    simp only [bst]
    have ih := bst_is (base := base) (val := val) (ok := ok) n
    by_cases ho : ok n = true
    · rw [if_pos ho]
      by_cases h : bst base val ok n ≤ val n
      · exact Or.inr ⟨n, by omega, ho, by omega⟩
      · rcases ih with e | ⟨m, h1, h2, h3⟩
        · exact Or.inl (by omega)
        · exact Or.inr ⟨m, by omega, h2, by omega⟩
    · rw [if_neg ho]
      rcases ih with e | ⟨m, h1, h2, h3⟩
      · exact Or.inl e
      · exact Or.inr ⟨m, by omega, h2, h3⟩
def dOk (P : Nat → Nat → Nat) (b S m : Nat) : Bool := !S.testBit m && decide (0 < P b m)
/-- D is the table of best sums of the bodies from b on, the missing ones of S being taken -/
def dTab (P : Nat → Nat → Nat) (nf nl : Nat) (D : Nat → Nat → Nat) : Prop := (∀ S, S < 2 ^ nl → D nf S = 0) ∧ ∀ b, b < nf → ∀ S, S < 2 ^ nl → D b S = bst (D (b + 1) S) (fun m => P b m + D (b + 1) (S ||| 2 ^ m)) (dOk P b S) nl
/-- a pairing of the bodies from b on that keeps off S: τ b = 0 is none, m + 1 is m -/
def tOk (P : Nat → Nat → Nat) (nf nl : Nat) (τ : Nat → Nat) (b S : Nat) : Prop := (∀ i, b ≤ i → i < nf → τ i ≤ nl ∧ (τ i ≠ 0 → 0 < P i (τ i - 1) ∧ S.testBit (τ i - 1) = false)) ∧ ∀ i j, b ≤ i → i < nf → b ≤ j → j < nf → τ i ≠ 0 → τ i = τ j → i = j
def tP (P : Nat → Nat → Nat) (τ : Nat → Nat) (b : Nat) : Nat := if τ b = 0 then 0 else P b (τ b - 1)
def tD (τ : Nat → Nat) (b : Nat) : Nat := if τ b = 0 then 0 else (13 - τ b) * 13 ^ (11 - b)
def tS (S x : Nat) : Nat := if x = 0 then S else S ||| 2 ^ (x - 1)
theorem tS_lt {S x nl : Nat} (hS : S < 2 ^ nl) (hx : x ≤ nl) : tS S x < 2 ^ nl := by
  unfold tS
  split
  · exact hS
  · exact Nat.or_lt_two_pow hS (Nat.pow_lt_pow_right (by decide) (by omega))
theorem tOk_next {P : Nat → Nat → Nat} {nf nl : Nat} {τ : Nat → Nat} {b S : Nat} (h : tOk P nf nl τ b S) (hb : b < nf) : tOk P nf nl τ (b + 1) (tS S (τ b)) := by
  obtain ⟨h1, h2⟩ := h
  refine ⟨fun i i1 i2 => ?_, fun i j i1 i2 j1 j2 => h2 i j (by omega) i2 (by omega) j2⟩
  obtain ⟨k1, k2⟩ := h1 i (by omega) i2
  refine ⟨k1, fun k3 => ⟨(k2 k3).1, ?_⟩⟩
  unfold tS
  split
  · exact (k2 k3).2
  · rename_i h0
    rw [fb_bit_set, (k2 k3).2, Bool.false_or, decide_eq_false_iff_not]
    intro e
    have := h2 i b (by omega) i2 (by omega) hb k3 (by omega)
    omega
theorem sm_first (f : Nat → Nat) (n : Nat) : fb_sm f (n + 1) = f 0 + fb_sm (fun k => f (k + 1)) n := by
  have := fb_sm_split f 1 n
  rw [show 1 + n = n + 1 by omega] at this
  rw [this, show fb_sm f 1 = f 0 by simp [fb_sm]]
  refine congrArg (f 0 + ·) (fb_sm_cong (fun k _ => by rw [show 1 + k = k + 1 by omega]))
theorem t_le {P : Nat → Nat → Nat} {nf nl : Nat} {D : Nat → Nat → Nat} (hD : dTab P nf nl D) {τ : Nat → Nat} : ∀ (d b S : Nat), b + d = nf → S < 2 ^ nl → tOk P nf nl τ b S → fb_sm (fun k => tP P τ (b + k)) d ≤ D b S
  | 0, b, S, h1, h2, h3 => Nat.zero_le _
  | d + 1, b, S, h1, h2, h3 => by
    have hb : b < nf := by omega
    obtain ⟨k1, k2⟩ := h3.1 b (Nat.le_refl b) hb
    have ih := t_le hD d (b + 1) (tS S (τ b)) (by omega) (tS_lt h2 k1) (tOk_next h3 hb)
    rw [sm_first, hD.2 b hb S h2]
    have e : fb_sm (fun k => tP P τ (b + (k + 1))) d = fb_sm (fun k => tP P τ (b + 1 + k)) d := fb_sm_cong (fun k _ => by rw [show b + (k + 1) = b + 1 + k by omega])
    rw [e]
    show tP P τ (b + 0) + _ ≤ _
    rw [Nat.add_zero]
    unfold tP
    unfold tS at ih
    by_cases h0 : τ b = 0
    · rw [if_pos h0]
      rw [if_pos h0] at ih
      have := bst_base (base := D (b + 1) S) (val := fun m => P b m + D (b + 1) (S ||| 2 ^ m)) (ok := dOk P b S) nl
      unfold tP at ih
      omega
    · rw [if_neg h0]
      rw [if_neg h0] at ih
      have := bst_ge (base := D (b + 1) S) (val := fun m => P b m + D (b + 1) (S ||| 2 ^ m)) (ok := dOk P b S) (n := nl) (m := τ b - 1) (by omega) (by simp [dOk, (k2 h0).1, (k2 h0).2])
      unfold tP at ih
      have this : P b (τ b - 1) + D (b + 1) (S ||| 2 ^ (τ b - 1)) ≤ bst (D (b + 1) S) (fun m => P b m + D (b + 1) (S ||| 2 ^ m)) (dOk P b S) nl := this
      omega
theorem t_dig {nf : Nat} {τ : Nat → Nat} (hn : nf ≤ 12) : ∀ (d b : Nat), b + d = nf → fb_sm (fun k => tD τ (b + k)) d < 13 ^ (12 - b)
  | 0, b, h1 => Nat.pow_pos (by decide)
  | d + 1, b, h1 => by
    have ih := t_dig hn d (b + 1) (by omega) (τ := τ)
    rw [sm_first]
    have e : fb_sm (fun k => tD τ (b + (k + 1))) d = fb_sm (fun k => tD τ (b + 1 + k)) d := fb_sm_cong (fun k _ => by rw [show b + (k + 1) = b + 1 + k by omega])
    rw [e]
    show tD τ (b + 0) + _ < _
    rw [Nat.add_zero]
    rw [show 12 - (b + 1) = 11 - b by omega] at ih
    have hx : 13 ^ (12 - b) = 13 * 13 ^ (11 - b) := by rw [show 12 - b = (11 - b) + 1 by omega, Nat.pow_succ, Nat.mul_comm]
    rw [hx]
    have hd : tD τ b ≤ 12 * 13 ^ (11 - b) := by
      unfold tD
      split
      · exact Nat.zero_le _
      · exact Nat.mul_le_mul_right _ (by omega)
    generalize 13 ^ (11 - b) = X at *
    omega
/-- the reference's choice, body by body -/
def gOk (P : Nat → Nat → Nat) (nf nl : Nat) (D : Nat → Nat → Nat) (g Sg : Nat → Nat) : Prop := Sg 0 = 0 ∧ ∀ b, b < nf → g b ≤ nl ∧ Sg (b + 1) = tS (Sg b) (g b) ∧ (g b = 0 → ∀ m, m < nl → dOk P b (Sg b) m = true → P b m + D (b + 1) (Sg b ||| 2 ^ m) ≠ D b (Sg b)) ∧ (g b ≠ 0 → dOk P b (Sg b) (g b - 1) = true ∧ P b (g b - 1) + D (b + 1) (Sg b ||| 2 ^ (g b - 1)) = D b (Sg b) ∧ ∀ m, m < g b - 1 → dOk P b (Sg b) m = true → P b m + D (b + 1) (Sg b ||| 2 ^ m) ≠ D b (Sg b))
theorem g_lt {P : Nat → Nat → Nat} {nf nl : Nat} {D : Nat → Nat → Nat} {g Sg : Nat → Nat} (hg : gOk P nf nl D g Sg) : ∀ b, b ≤ nf → Sg b < 2 ^ nl
  | 0, _ => by rw [hg.1]; exact Nat.pow_pos (by decide)
  | b + 1, h => by
    rw [(hg.2 b (by omega)).2.1]
    exact tS_lt (g_lt hg b (by omega)) (hg.2 b (by omega)).1
theorem g_step {P : Nat → Nat → Nat} {nf nl : Nat} {D : Nat → Nat → Nat} {g Sg : Nat → Nat} (hD : dTab P nf nl D) (hg : gOk P nf nl D g Sg) {b : Nat} (hb : b < nf) : D b (Sg b) = tP P g b + D (b + 1) (Sg (b + 1)) := by
  obtain ⟨g1, g2, g3, g4⟩ := hg.2 b hb
  have hS := g_lt hg b (by omega)
  rw [g2]
  unfold tP tS
  by_cases h0 : g b = 0
  · rw [if_pos h0, if_pos h0, Nat.zero_add]
    have e := hD.2 b hb (Sg b) hS
    rcases bst_is (base := D (b + 1) (Sg b)) (val := fun m => P b m + D (b + 1) (Sg b ||| 2 ^ m)) (ok := dOk P b (Sg b)) nl with h | ⟨m, m1, m2, m3⟩
    · rw [e, h]
    · exact absurd (m3.symm.trans e.symm) (g3 h0 m m1 m2)
  · rw [if_neg h0, if_neg h0]
    exact (g4 h0).2.1.symm
theorem g_sum {P : Nat → Nat → Nat} {nf nl : Nat} {D : Nat → Nat → Nat} {g Sg : Nat → Nat} (hD : dTab P nf nl D) (hg : gOk P nf nl D g Sg) : ∀ (d b : Nat), b + d = nf → fb_sm (fun k => tP P g (b + k)) d = D b (Sg b)
  | 0, b, h1 => by
    have : b = nf := by omega
    subst this
    exact (hD.1 _ (g_lt hg b (Nat.le_refl b))).symm
  | d + 1, b, h1 => by
    have ih := g_sum hD hg d (b + 1) (by omega)
    have e : fb_sm (fun k => tP P g (b + (k + 1))) d = fb_sm (fun k => tP P g (b + 1 + k)) d := fb_sm_cong (fun k _ => by rw [show b + (k + 1) = b + 1 + k by omega])
    rw [sm_first, e, ih, g_step hD hg (b := b) (by omega)]
    rfl
/-- whoever has at least the greatest worth is the reference's choice -/
theorem g_only {P : Nat → Nat → Nat} {nf nl : Nat} {D : Nat → Nat → Nat} {g Sg τ : Nat → Nat} {C : Nat} (hC : ∀ b, b < 13 → 13 ^ (12 - b) ≤ C) (hn : nf ≤ 12) (hl : nl ≤ 12) (hD : dTab P nf nl D) (hg : gOk P nf nl D g Sg) (hτ : tOk P nf nl τ 0 0) (hV : fb_sm (fun k => tP P g k * C + tD g k) nf ≤ fb_sm (fun k => tP P τ k * C + tD τ k) nf) : ∀ b, b < nf → τ b = g b := by
  have mulsm : ∀ (f h : Nat → Nat) n, fb_sm (fun k => f k * C + h k) n = fb_sm f n * C + fb_sm h n := fun f h n => by
    rw [fb_sm_add]
    congr 1
    induction n with
    | zero => exact (Nat.zero_mul _).symm
    | succ n ih => rw [fb_sm_succ, fb_sm_succ, ih, Nat.add_mul]
  have key : ∀ b, b ≤ nf → (∀ i, i < b → τ i = g i) ∧ tOk P nf nl τ b (Sg b) ∧ fb_sm (fun k => tP P g (b + k) * C + tD g (b + k)) (nf - b) ≤ fb_sm (fun k => tP P τ (b + k) * C + tD τ (b + k)) (nf - b) := by
    intro b
    induction b with
    | zero =>
      intro _
      refine ⟨fun i h => absurd h (Nat.not_lt_zero i), by rw [hg.1]; exact hτ, ?_⟩
      simp only [Nat.zero_add, Nat.sub_zero]
      exact hV
    | succ b ih =>
      intro hb
      obtain ⟨i1, i2, i3⟩ := ih (by omega)
      have hb' : b < nf := by omega
      obtain ⟨g1, g2, g3, g4⟩ := hg.2 b hb'
      obtain ⟨k1, k2⟩ := i2.1 b (Nat.le_refl b) hb'
      -- the two from b on
      have hS := g_lt hg b (by omega)
      have sg := g_sum hD hg (nf - b) b (by omega)
      have st := t_le hD (nf - b) b (Sg b) (by omega) hS i2
      have dt := t_dig hn (nf - b) b (by omega) (τ := τ)
      have pw := hC b (by omega)
      have i3' := i3
      rw [mulsm (fun k => tP P g (b + k)) (fun k => tD g (b + k)), mulsm (fun k => tP P τ (b + k)) (fun k => tD τ (b + k)), sg] at i3'
      have seq : fb_sm (fun k => tP P τ (b + k)) (nf - b) = D b (Sg b) := by
        rcases Nat.lt_or_ge (fb_sm (fun k => tP P τ (b + k)) (nf - b)) (D b (Sg b)) with h | h
        · exfalso
          have : (fb_sm (fun k => tP P τ (b + k)) (nf - b) + 1) * C ≤ D b (Sg b) * C := Nat.mul_le_mul_right _ h
          rw [Nat.add_mul, Nat.one_mul] at this
          generalize fb_sm (fun k => tP P τ (b + k)) (nf - b) * C = X at *
          generalize D b (Sg b) * C = Y at *
          generalize 13 ^ (12 - b) = Z at *
          omega
        · omega
      rw [seq] at i3'
      have dle : fb_sm (fun k => tD g (b + k)) (nf - b) ≤ fb_sm (fun k => tD τ (b + k)) (nf - b) := by omega
      -- the first choice attains
      have hnext := tOk_next i2 hb'
      have st' := t_le hD (nf - (b + 1)) (b + 1) (tS (Sg b) (τ b)) (by omega) (tS_lt hS k1) hnext
      have f1 : ∀ f : Nat → Nat, fb_sm (fun k => f (b + k)) (nf - b) = f b + fb_sm (fun k => f (b + 1 + k)) (nf - (b + 1)) := fun f => by
        rw [show nf - b = (nf - (b + 1)) + 1 by omega, sm_first]
        show f (b + 0) + _ = _
        rw [Nat.add_zero]
        refine congrArg (f b + ·) (fb_sm_cong (fun k _ => by rw [show b + (k + 1) = b + 1 + k by omega]))
      rw [f1 (tP P τ)] at seq
      have att : tP P τ b + D (b + 1) (tS (Sg b) (τ b)) = D b (Sg b) := by
        have h1 : tP P τ b + D (b + 1) (tS (Sg b) (τ b)) ≤ D b (Sg b) := by
          rw [hD.2 b hb' (Sg b) hS]
          unfold tP tS
          by_cases h0 : τ b = 0
          · rw [if_pos h0, if_pos h0, Nat.zero_add]
            exact bst_base nl
          · rw [if_neg h0, if_neg h0]
            exact bst_ge (val := fun m => P b m + D (b + 1) (Sg b ||| 2 ^ m)) (m := τ b - 1) (by omega) (by simp [dOk, (k2 h0).1, (k2 h0).2])
        omega
      have same : τ b = g b := by
        rcases Nat.lt_trichotomy (if τ b = 0 then 0 else 13 - τ b) (if g b = 0 then 0 else 13 - g b) with h | h | h
        · -- the digit would be less
          exfalso
          rw [f1 (tD g), f1 (tD τ)] at dle
          have dt' := t_dig hn (nf - (b + 1)) (b + 1) (by omega) (τ := τ)
          rw [show 12 - (b + 1) = 11 - b by omega] at dt'
          have e1 : tD τ b = (if τ b = 0 then 0 else 13 - τ b) * 13 ^ (11 - b) := by
            unfold tD
            split
            · rw [Nat.zero_mul]
            · rfl
          have e2 : tD g b = (if g b = 0 then 0 else 13 - g b) * 13 ^ (11 - b) := by
            unfold tD
            split
            · rw [Nat.zero_mul]
            · rfl
          rw [e1, e2] at dle
          have h5 : ((if τ b = 0 then 0 else 13 - τ b) + 1) * 13 ^ (11 - b) ≤ (if g b = 0 then 0 else 13 - g b) * 13 ^ (11 - b) := Nat.mul_le_mul_right _ h
          rw [Nat.add_mul, Nat.one_mul] at h5
          generalize (if τ b = 0 then 0 else 13 - τ b) * 13 ^ (11 - b) = X at *
          generalize (if g b = 0 then 0 else 13 - g b) * 13 ^ (11 - b) = Y at *
          generalize 13 ^ (11 - b) = Z at *
          omega
        · by_cases h0 : τ b = 0
          · by_cases h1 : g b = 0
            · omega
            · rw [if_pos h0, if_neg h1] at h; omega
          · by_cases h1 : g b = 0
            · rw [if_neg h0, if_pos h1] at h; omega
            · rw [if_neg h0, if_neg h1] at h; omega
        · -- the reference would have taken it
          exfalso
          have h0 : τ b ≠ 0 := fun e => by rw [if_pos e] at h; omega
          unfold tP tS at att
          rw [if_neg h0, if_neg h0] at att
          have ok : dOk P b (Sg b) (τ b - 1) = true := by simp [dOk, (k2 h0).1, (k2 h0).2]
          by_cases h1 : g b = 0
          · exact g3 h1 (τ b - 1) (by omega) ok att
          · rw [if_neg h0, if_neg h1] at h
            exact (g4 h1).2.2 (τ b - 1) (by omega) ok att
      refine ⟨fun i hi => ?_, ?_, ?_⟩
      · by_cases e : i = b
        · rw [e]; exact same
        · exact i1 i (by omega)
      · rw [g2, ← same]; exact hnext
      · rw [f1 (fun k => tP P g k * C + tD g k), f1 (fun k => tP P τ k * C + tD τ k)] at i3
        have e1 : tP P τ b = tP P g b := by unfold tP; rw [same]
        have e2 : tD τ b = tD g b := by unfold tD; rw [same]
        rw [e1, e2] at i3
        omega
  exact fun b hb => (key nf (Nat.le_refl nf)).1 b hb
