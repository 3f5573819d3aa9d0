theorem nmI_0 : nmI 0 = -1 := rfl
theorem nmI_s {x : Nat} (h : x ≠ 0) : nmI x = nI (x - 1) := by unfold nmI; rw [if_neg h]
theorem nI_nm1 {j : Nat} (h : j < 2 ^ 31) : ¬ nI j = (-1 : Int32) := fun e => by
  have := nI_pos h
  rw [e] at this
  exact this (by decide)
theorem nmI_iff {x : Nat} (h : x < 2 ^ 31) : nmI x = (-1 : Int32) ↔ x = 0 := by
  constructor
  · intro e
    by_cases h0 : x = 0
    · exact h0
    · rw [nmI_s h0] at e
      exact absurd e (nI_nm1 (by omega))
  · intro e
    rw [e]; rfl
/-- the choice at one body among the missing ones from c on -/
def pick (P D : Nat → Nat → Nat) (b S nl c x : Nat) : Prop := (x = 0 → ∀ m, c ≤ m → m < nl → dOk P b S m = true → P b m + D (b + 1) (S ||| 2 ^ m) ≠ D b S) ∧ (x ≠ 0 → c ≤ x - 1 ∧ x ≤ nl ∧ dOk P b S (x - 1) = true ∧ P b (x - 1) + D (b + 1) (S ||| 2 ^ (x - 1)) = D b S ∧ ∀ m, c ≤ m → m < x - 1 → dOk P b S m = true → P b m + D (b + 1) (S ||| 2 ^ m) ≠ D b S)
theorem m_sh_L39 {P D : Nat → Nat → Nat} {nf nl b S : Nat} (hf : nf ≤ 12) (hl : nl ≤ 12) (hb : b < nf) (hS : S < 2 ^ nl) (I : mI) (J : mJ) (hP : ∀ m, m < nl → I 8 (12 * b + m) = nI (P b m) ∧ P b m ≤ 21000) (hD : ∀ b' S', b' ≤ nf → S' < 2 ^ nl → I 9 (4096 * b' + S') = nI (D b' S') ∧ D b' S' ≤ 252000) :
    ∀ (N c x : Nat) (I' : mI), c ≤ nl → c < N → (∀ a k, ¬ (a = 10 ∧ k = b) → I' a k = I a k) → I' 10 b = nmI x → pick P D b S nl c x → ∃ (I'' : mI) (x' : Nat), f_X9_shares_L39 kM 0 (nI S) (nI b) J rM N (nI c - 1) I' = some I'' ∧ (∀ a k, ¬ (a = 10 ∧ k = b) → I'' a k = I a k) ∧ I'' 10 b = nmI x' ∧ pick P D b S nl 0 x' := by
  have p4 := p4096 hl
  intro N
  induction N with
  | zero => intro c x I' h1 h2; omega
  | succ N ih =>
    intro c x I' h1 h2 h3 h4 h5
    rw [f_X9_shares_L39]
    by_cases hc : c = 0
    · subst hc
      exact ⟨I', x, by rw [if_pos nI_m1z], h3, h4, h5⟩
    · have hm : c - 1 < nl := by omega
      obtain ⟨p1, p2⟩ := hP (c - 1) hm
      have hS2 := Nat.or_lt_two_pow hS (Nat.pow_lt_pow_right (a := 2) (by decide) hm)
      obtain ⟨d1, d2⟩ := hD (b + 1) (S ||| 2 ^ (c - 1)) (by omega) hS2
      obtain ⟨d3, d4⟩ := hD b S (by omega) hS
      have i12 : (12 : Int32) * nI b + nI (c - 1) = nI (12 * b + (c - 1)) := by rw [show (12 : Int32) = nI 12 from rfl, pk_mul, nI_add]
      have i4 : (4096 : Int32) * nI b + (4096 : Int32) + nI (S ||| 2 ^ (c - 1)) = nI (4096 * (b + 1) + (S ||| 2 ^ (c - 1))) := by rw [show (4096 : Int32) = nI 4096 from rfl, pk_mul, nI_add, nI_add, show 4096 * b + 4096 = 4096 * (b + 1) by omega]
      have i5 : (4096 : Int32) * nI b + nI S = nI (4096 * b + S) := by rw [show (4096 : Int32) = nI 4096 from rfl, pk_mul, nI_add]
      -- when c - 1 isn't taken
      have keep : ¬ (dOk P b S (c - 1) = true ∧ P b (c - 1) + D (b + 1) (S ||| 2 ^ (c - 1)) = D b S) → pick P D b S nl (c - 1) x := fun hno => by
        refine ⟨fun e m m1 m2 m3 m4 => ?_, fun e => ?_⟩
        · by_cases em : m = c - 1
          · subst em; exact hno ⟨m3, m4⟩
          · exact h5.1 e m (by omega) m2 m3 m4
        · obtain ⟨q1, q2, q3, q4, q5⟩ := h5.2 e
          refine ⟨by omega, q2, q3, q4, fun m m1 m2 m3 m4 => ?_⟩
          by_cases em : m = c - 1
          · subst em; exact hno ⟨m3, m4⟩
          · exact q5 m (by omega) m2 m3 m4
      rw [nI_m1 (by omega), if_neg (nI_pos (by omega)), sub1]
      by_cases ht : S.testBit (c - 1) = false
      · rw [if_pos ((bit_z (by omega) (by omega)).mpr ht), if_pos km0, rq7, Option.bind_some, i12, if_pos (mx _ km8 (by omega) (by decide)), nI_c (show 12 * b + (c - 1) < 2 ^ 31 by omega), h3 8 _ (by omega), p1]
        by_cases hp : P b (c - 1) = 0
        · rw [hp, if_pos (by decide)]
          exact ih (c - 1) x I' (by omega) (by omega) h3 h4 (keep (fun z => by have := z.1; simp [dOk, hp] at this))
        · rw [if_neg (nI_nle (by omega) (by omega)), rq8, Option.bind_some, or_bit (by omega), i4, if_pos (mx _ km9 (by omega) (by decide)), i5, if_pos (mx _ km9 (by omega) (by decide)), nI_c (show 4096 * (b + 1) + (S ||| 2 ^ (c - 1)) < 2 ^ 31 by omega), nI_c (show 4096 * b + S < 2 ^ 31 by omega), h3 9 _ (by omega), h3 9 _ (by omega), d1, d3, nI_add]
          by_cases he : P b (c - 1) + D (b + 1) (S ||| 2 ^ (c - 1)) = D b S
          · rw [he, if_pos rfl, rq9, Option.bind_some, if_pos (mx b km10 (by omega) (by decide)), Option.bind_some, nI_c (show b < 2 ^ 31 by omega)]
            refine ih (c - 1) c _ (by omega) (by omega) (fun a k h => by rw [mup_ne _ _ h]; exact h3 a k h) (by rw [mup_eq, nmI_s hc]) ⟨fun e => absurd e hc, fun _ => ⟨Nat.le_refl _, by omega, by simp [dOk, ht]; omega, he, fun m m1 m2 => by omega⟩⟩
          · rw [if_neg (fun z => he ((nI_eq (by omega) (by omega)).mp z))]
            exact ih (c - 1) x I' (by omega) (by omega) h3 h4 (keep (fun z => he z.2))
      · have ht : S.testBit (c - 1) = true := by simpa using ht
        rw [if_neg (fun z => by have := (bit_z (by omega) (by omega)).mp z; rw [ht] at this; cases this)]
        exact ih (c - 1) x I' (by omega) (by omega) h3 h4 (keep (fun z => by have := z.1; simp [dOk, ht] at this))
theorem cl1 : (1 : Int32).toNatClampNeg = 1 := by decide
theorem m_sh_L13 {P D : Nat → Nat → Nat} {nf nl : Nat} (hf : nf ≤ 12) (hl : nl ≤ 12) (I : mI) (J : mJ) (h0 : I 1 0 = nI nl) (h1 : I 1 1 = nI nf) (hP : ∀ b m, b < nf → m < nl → I 8 (12 * b + m) = nI (P b m) ∧ P b m ≤ 21000) (hD : ∀ b' S', b' ≤ nf → S' < 2 ^ nl → I 9 (4096 * b' + S') = nI (D b' S') ∧ D b' S' ≤ 252000) :
    ∀ (N b : Nat) (I' : mI) (g Sg : Nat → Nat), b ≤ nf → nf - b < N → gOk P b nl D g Sg → (∀ a k, a ≠ 10 → I' a k = I a k) → (∀ i, i < b → I' 10 i = nmI (g i)) → ∃ (I'' : mI) (g' Sg' : Nat → Nat), f_X9_shares_L13 kM 0 J rM N (nI (Sg b)) (nI b) I' = some I'' ∧ gOk P nf nl D g' Sg' ∧ (∀ a k, a ≠ 10 → I'' a k = I a k) ∧ ∀ i, i < nf → I'' 10 i = nmI (g' i) := by
  have p4 := p4096 hl
  intro N
  induction N with
  | zero => intro b I' g Sg h1 h2; omega
  | succ N ih =>
    intro b I' g Sg hb hN hg h3 h4
    rw [f_X9_shares_L13, if_pos km0, rq0, Option.bind_some, if_pos (show mIx kM 1 1 (1 : Int32) from mx 1 km1 (by decide) (by decide)), cl1, h3 1 1 (by decide), h1]
    by_cases he : b = nf
    · subst he
      exact ⟨I', g, Sg, by rw [if_pos (nI_le (Nat.le_refl _) (by omega))], hg, h3, h4⟩
    · have hb : b < nf := by omega
      have hS := g_lt hg b (Nat.le_refl b)
      rw [if_neg (nI_ge hb (by omega)), rq9, Option.bind_some, if_pos (mx b km10 (by omega) (by decide)), Option.bind_some, if_pos (show mIx kM 1 1 (0 : Int32) from mx 0 km1 (by decide) (by decide)), sb_cl0, nI_c (show b < 2 ^ 31 by omega), mup_ne _ _ (by omega), h3 1 0 (by decide), h0, nI_s1]
      obtain ⟨I2, x, o1, o2, o3, o4⟩ := m_sh_L39 hf hl hb hS (mup I' 10 b (-1)) J (fun m hm => ⟨by rw [mup_ne _ _ (by omega), h3 8 _ (by decide)]; exact (hP b m hb hm).1, (hP b m hb hm).2⟩) (fun b' S' k1 k2 => ⟨by rw [mup_ne _ _ (by omega), h3 9 _ (by decide)]; exact (hD b' S' k1 k2).1, (hD b' S' k1 k2).2⟩) 8192 nl 0 (mup I' 10 b (-1)) (Nat.le_refl _) (by omega) (fun _ _ _ => rfl) (by rw [mup_eq]; rfl) ⟨fun _ m m1 m2 => by omega, fun h => absurd rfl h⟩
      rw [o1, Option.bind_some, o3]
      have hx : x ≤ nl := by
        by_cases e : x = 0
        · omega
        · exact (o4.2 e).2.1
      have g2 : gOk P (b + 1) nl D (fun i => if i = b then x else g i) (fun i => if i = b + 1 then tS (Sg b) x else Sg i) := by
        refine ⟨by show (if 0 = b + 1 then tS (Sg b) x else Sg 0) = 0; rw [if_neg (by omega)]; exact hg.1, fun i hi => ?_⟩
        by_cases e : i = b
        · subst e
          simp only [if_true, show i ≠ i + 1 by omega, if_false]
          refine ⟨hx, trivial, fun e m m1 m2 => o4.1 e m (Nat.zero_le m) m1 m2, fun e => ?_⟩
          obtain ⟨-, -, q3, q4, q5⟩ := o4.2 e
          exact ⟨q3, q4, fun m m1 m2 => q5 m (Nat.zero_le m) m1 m2⟩
        · simp only [e, show ¬ i + 1 = b + 1 by omega, show ¬ i = b + 1 by omega, if_false]
          exact hg.2 i (by omega)
      have fr : ∀ a k, a ≠ 10 → I2 a k = I a k := fun a k h => by rw [o2 a k (fun z => h z.1), mup_ne _ _ (fun z => h z.1)]; exact h3 a k h
      have vals : ∀ i, i < b + 1 → I2 10 i = nmI ((fun i => if i = b then x else g i) i) := fun i hi => by
        by_cases e : i = b
        · subst e; simp only [if_true]; exact o3
        · simp only [e, if_false]
          rw [o2 10 i (fun z => e z.2), mup_ne _ _ (fun z => e z.2)]
          exact h4 i (by omega)
      have ihh := ih (b + 1) I2 _ _ (by omega) (by omega) g2 fr vals
      simp only [if_true] at ihh
      by_cases e : x = 0
      · rw [if_pos ((nmI_iff (by omega)).mpr e)]
        have : tS (Sg b) x = Sg b := by unfold tS; rw [if_pos e]
        rw [this] at ihh
        exact ihh
      · rw [if_neg (fun z => e ((nmI_iff (by omega)).mp z)), Option.bind_some, nmI_s e, or_bit (by omega)]
        have : tS (Sg b) x = Sg b ||| 2 ^ (x - 1) := by unfold tS; rw [if_neg e]
        rw [this] at ihh
        exact ihh
