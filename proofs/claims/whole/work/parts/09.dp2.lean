/-! ===== small numbers as bits ===== -/
theorem shm : ∀ n, n < 32 → ((nI n &&& 31).toBitVec.smod 32).toNat = n := by decide
theorem one_shl {m : Nat} (h : m < 31) : (1 : Int32) <<< (nI m &&& 31) = nI (2 ^ m) := by
  have e := pk_shlN (n := 1) (nI m &&& 31) m (shm m (by omega)) (by
    rw [Nat.one_mul]
    exact Nat.pow_lt_pow_right (by decide) (show m < 32 by omega))
  rw [Nat.one_mul] at e
  exact e
theorem or_bit {S m : Nat} (h : m < 31) : nI S ||| ((1 : Int32) <<< (nI m &&& 31)) = nI (S ||| 2 ^ m) := by rw [one_shl h, fa_or]
theorem bit_z {S m : Nat} (hS : S < 2 ^ 31) (hm : m < 31) : ((nI S >>> (nI m &&& 31)) &&& (1 : Int32)) = 0 ↔ S.testBit m = false := by
  rw [pk_shrN hS (nI m &&& 31) m (shm m (by omega)), show (1 : Int32) = nI (2 ^ 0) from rfl, fa_bit (by decide), Nat.testBit_zero, Nat.testBit_eq_decide_div_mod_eq]
theorem imax_nI {a b : Nat} (ha : a < 2 ^ 31) (hb : b < 2 ^ 31) : imax (nI a) (nI b) = nI (max a b) := by
  unfold imax
  by_cases h : a < b
  · rw [if_pos (nI_lt h hb), Nat.max_eq_right (by omega)]
  · rw [if_neg (nI_nlt (by omega) ha), Nat.max_eq_left (by omega)]
theorem imin_nI {a b : Nat} (ha : a < 2 ^ 31) (hb : b < 2 ^ 31) : imin (nI a) (nI b) = nI (min a b) := by
  unfold imin
  by_cases h : b < a
  · rw [if_pos (nI_lt h ha), Nat.min_eq_right (by omega)]
  · rw [if_neg (nI_nlt (by omega) hb), Nat.min_eq_left (by omega)]
theorem sub1 (x : Int32) : x + (-1 : Int32) = x - 1 := by
  rw [Int32.sub_eq_add_neg]
/-! the model's references and shapes -/
theorem km0 : kM 0 = (0, 9) := rfl
theorem km1 : kM 1 = (1, 2) := rfl
theorem km2 : kM 2 = (1, 456) := rfl
theorem km3 : kM 3 = (1, 24) := rfl
theorem km4 : kM 4 = (1, 24) := rfl
theorem km5 : kM 5 = (1, 12) := rfl
theorem km6 : kM 6 = (1, 12) := rfl
theorem km7 : kM 7 = (1, 12) := rfl
theorem km8 : kM 8 = (1, 144) := rfl
theorem km9 : kM 9 = (1, 53248) := rfl
theorem km10 : kM 10 = (1, 12) := rfl
theorem km11 : kM 11 = (1, 60) := rfl
theorem km12 : kM 12 = (1, 60) := rfl
theorem km13 : kM 13 = (1, 60) := rfl
theorem km14 : kM 14 = (1, 42) := rfl
theorem km15 : kM 15 = (2, 500) := rfl
theorem km16 : kM 16 = (2, 500) := rfl
theorem rq0 : rM 0 0 = some 1 := rfl
theorem rq1 : rM 0 1 = some 2 := rfl
theorem rq2 : rM 0 2 = some 3 := rfl
theorem rq3 : rM 0 3 = some 4 := rfl
theorem rq4 : rM 0 4 = some 5 := rfl
theorem rq5 : rM 0 5 = some 6 := rfl
theorem rq6 : rM 0 6 = some 7 := rfl
theorem rq7 : rM 0 7 = some 8 := rfl
theorem rq8 : rM 0 8 = some 9 := rfl
theorem rq9 : rM 0 9 = some 10 := rfl
theorem rq11 : rM 0 11 = some 11 := rfl
theorem rq12 : rM 0 12 = some 12 := rfl
theorem rq13 : rM 0 13 = some 13 := rfl
theorem rq14 : rM 0 14 = some 14 := rfl
theorem rq15 : rM 0 15 = some 15 := rfl
theorem rq16 : rM 0 16 = some 16 := rfl
theorem mx {K : mK} {a q N : Nat} (j : Nat) (h : K a = (q, N)) (hj : j < N) (hN : N < 2 ^ 31) : mIx K a q (nI j) := mIx_of h hj hN
/-! the table -/
def dF (P : Nat → Nat → Nat) (nf nl : Nat) : Nat → Nat → Nat
  | 0, _ => 0
  | d + 1, S => bst (dF P nf nl d S) (fun m => P (nf - (d + 1)) m + dF P nf nl d (S ||| 2 ^ m)) (dOk P (nf - (d + 1)) S) nl
def dD (P : Nat → Nat → Nat) (nf nl b S : Nat) : Nat := dF P nf nl (nf - b) S
theorem dD_tab (P : Nat → Nat → Nat) (nf nl : Nat) : dTab P nf nl (dD P nf nl) := by
  refine ⟨fun S _ => by unfold dD; rw [Nat.sub_self]; rfl, fun b hb S _ => ?_⟩
  unfold dD
  rw [show nf - b = (nf - (b + 1)) + 1 by omega]
  simp only [dF]
  rw [show nf - (nf - (b + 1) + 1) = b by omega]
theorem bst_le {base : Nat} {val : Nat → Nat} {ok : Nat → Bool} {c : Nat} (h1 : base ≤ c) (h2 : ∀ m, ok m = true → val m ≤ c) (n : Nat) : bst base val ok n ≤ c := by
  rcases bst_is (base := base) (val := val) (ok := ok) n with h | ⟨m, m1, m2, m3⟩
  · omega
  · have := h2 m m2; omega
theorem dF_le {P : Nat → Nat → Nat} {nf nl : Nat} (hP : ∀ b m, b < nf → m < nl → P b m ≤ 21000) : ∀ (d : Nat), d ≤ nf → ∀ S, S < 2 ^ nl → dF P nf nl d S ≤ 21000 * d
  | 0, _, S, _ => Nat.zero_le _
  | d + 1, h, S, hS => by
    simp only [dF]
    rcases bst_is (base := dF P nf nl d S) (val := fun m => P (nf - (d + 1)) m + dF P nf nl d (S ||| 2 ^ m)) (ok := dOk P (nf - (d + 1)) S) nl with e | ⟨m, m1, m2, m3⟩
    · have := dF_le hP d (by omega) S hS
      omega
    · have q1 := dF_le hP d (by omega) (S ||| 2 ^ m) (Nat.or_lt_two_pow hS (Nat.pow_lt_pow_right (by decide) m1))
      have q2 := hP (nf - (d + 1)) m (by omega) m1
      have m3 : bst (dF P nf nl d S) (fun m => P (nf - (d + 1)) m + dF P nf nl d (S ||| 2 ^ m)) (dOk P (nf - (d + 1)) S) nl = P (nf - (d + 1)) m + dF P nf nl d (S ||| 2 ^ m) := m3
      omega
theorem dD_le {P : Nat → Nat → Nat} {nf nl : Nat} (hn : nf ≤ 12) (hP : ∀ b m, b < nf → m < nl → P b m ≤ 21000) {b S : Nat} (hS : S < 2 ^ nl) : dD P nf nl b S ≤ 252000 := by
  have := dF_le hP (nf - b) (by omega) S hS
  unfold dD
  omega
theorem p4096 {nl : Nat} (h : nl ≤ 12) : 2 ^ nl ≤ 4096 := Nat.pow_le_pow_right (by decide) h
theorem m_pairs_L18 {nf : Nat} (hf : nf ≤ 12) {A : Nat} (hA : A ≤ 4096) (I : mI) (J : mJ) : ∀ (N s : Nat), s ≤ A → A - s < N → f_X9_pairs_L18 kM 0 (nI nf) (nI A) J rM N (nI s) (rowU I 9 (4096 * nf) (4096 * nf + s) (fun _ => 0)) = some (rowU I 9 (4096 * nf) (4096 * nf + A) (fun _ => 0)) := by
  intro N
  induction N with
  | zero => intro s h1 h2; omega
  | succ N ih =>
    intro s h1 h2
    rw [f_X9_pairs_L18]
    by_cases hs : s = A
    · subst hs
      rw [if_pos (nI_le (Nat.le_refl _) (by omega))]
    · have ix : (4096 : Int32) * nI nf + nI s = nI (4096 * nf + s) := by rw [show (4096 : Int32) = nI 4096 from rfl, pk_mul, nI_add]
      rw [if_neg (nI_ge (by omega) (by omega)), if_pos km0, rq8, Option.bind_some, ix, if_pos (mx _ km9 (by omega) (by decide)), Option.bind_some, nI_c (by omega), nI_s1, rowU_s (by omega) rfl]
      exact ih (s + 1) (by omega) (by omega)
theorem m_pairs_L81 {P D : Nat → Nat → Nat} {nf nl b S : Nat} (hf : nf ≤ 12) (hl : nl ≤ 12) (hb : b < nf) (hS : S < 2 ^ nl) (I : mI) (J : mJ) (A : Int32) (h0 : I 1 0 = nI nl) (hP : ∀ m, m < nl → I 8 (12 * b + m) = nI (P b m) ∧ P b m ≤ 21000) (hD : ∀ S', S' < 2 ^ nl → I 9 (4096 * b + 4096 + S') = nI (D (b + 1) S') ∧ D (b + 1) S' ≤ 252000) : ∀ (N m : Nat), m ≤ nl → nl - m < N → f_X9_pairs_L81 kM 0 A (nI b) (nI S) I J rM N (nI (bst (D (b + 1) S) (fun m => P b m + D (b + 1) (S ||| 2 ^ m)) (dOk P b S) m)) (nI m) = some (nI (bst (D (b + 1) S) (fun m => P b m + D (b + 1) (S ||| 2 ^ m)) (dOk P b S) nl)) := by
  have p4 := p4096 hl
  have hbo : ∀ m, m ≤ nl → bst (D (b + 1) S) (fun m => P b m + D (b + 1) (S ||| 2 ^ m)) (dOk P b S) m ≤ 273000 := fun m hm => by
    rcases bst_is (base := D (b + 1) S) (val := fun m => P b m + D (b + 1) (S ||| 2 ^ m)) (ok := dOk P b S) m with e | ⟨k, k1, k2, k3⟩
    · have := (hD S hS).2; omega
    · have q1 := (hP k (by omega)).2
      have q2 := (hD (S ||| 2 ^ k) (Nat.or_lt_two_pow hS (Nat.pow_lt_pow_right (by decide) (by omega)))).2
      have k3 : bst (D (b + 1) S) (fun m => P b m + D (b + 1) (S ||| 2 ^ m)) (dOk P b S) m = P b k + D (b + 1) (S ||| 2 ^ k) := k3
      omega
  intro N
  induction N with
  | zero => intro m h1 h2; omega
  | succ N ih =>
    intro m h1 h2
    rw [f_X9_pairs_L81, if_pos km0, rq0, Option.bind_some, if_pos (show mIx kM 1 1 (0 : Int32) from mx 0 km1 (by decide) (by decide)), sb_cl0, h0]
    by_cases hm : m = nl
    · subst hm
      rw [if_pos (nI_le (Nat.le_refl _) (by omega))]
    · have hm : m < nl := by omega
      obtain ⟨p1, p2⟩ := hP m hm
      have hS2 := Nat.or_lt_two_pow hS (Nat.pow_lt_pow_right (a := 2) (by decide) hm)
      obtain ⟨d1, d2⟩ := hD (S ||| 2 ^ m) hS2
      have ih' := ih (m + 1) (by omega) (by omega)
      have i12 : (12 : Int32) * nI b + nI m = nI (12 * b + m) := by rw [show (12 : Int32) = nI 12 from rfl, pk_mul, nI_add]
      have i4 : (4096 : Int32) * nI b + (4096 : Int32) + nI (S ||| 2 ^ m) = nI (4096 * b + 4096 + (S ||| 2 ^ m)) := by rw [show (4096 : Int32) = nI 4096 from rfl, pk_mul, nI_add, nI_add]
      rw [if_neg (nI_ge hm (by omega)), nI_s1]
      by_cases ht : S.testBit m = false
      · rw [if_pos ((bit_z (by omega) (by omega)).mpr ht), rq7, Option.bind_some, i12, if_pos (mx _ km8 (by omega) (by decide)), nI_c (by omega), p1]
        by_cases hp : P b m = 0
        · have ok : dOk P b S m = false := by simp [dOk, hp]
          rw [hp, if_pos (by decide)]
          simp only [bst, ok] at ih'
          exact ih'
        · have ok : dOk P b S m = true := by simp [dOk, ht]; omega
          have hbm := hbo m (by omega)
          rw [if_neg (nI_nle (by omega) (by omega)), rq8, Option.bind_some, or_bit (by omega), i4, if_pos (mx _ km9 (by omega) (by decide)), Option.bind_some, nI_c (by omega), d1, nI_add, imax_nI (by omega) (by omega)]
          simp only [bst, ok, if_true] at ih'
          exact ih'
      · have ht : S.testBit m = true := by simpa using ht
        have ok : dOk P b S m = false := by simp [dOk, ht]
        rw [if_neg (fun z => by have := (bit_z (by omega) (by omega)).mp z; rw [ht] at this; cases this)]
        simp only [bst, ok] at ih'
        exact ih'
theorem m_pairs_L53 {P D : Nat → Nat → Nat} {nf nl b : Nat} (hf : nf ≤ 12) (hl : nl ≤ 12) (hb : b < nf) (I : mI) (J : mJ) (h0 : I 1 0 = nI nl) (hP : ∀ m, m < nl → I 8 (12 * b + m) = nI (P b m) ∧ P b m ≤ 21000) (hD : ∀ S', S' < 2 ^ nl → I 9 (4096 * b + 4096 + S') = nI (D (b + 1) S') ∧ D (b + 1) S' ≤ 252000) (hR : ∀ S, S < 2 ^ nl → D b S = bst (D (b + 1) S) (fun m => P b m + D (b + 1) (S ||| 2 ^ m)) (dOk P b S) nl) : ∀ (N s : Nat), s ≤ 2 ^ nl → 2 ^ nl - s < N → f_X9_pairs_L53 kM 0 (nI (2 ^ nl)) (nI b) J rM N (nI s) (rowU I 9 (4096 * b) (4096 * b + s) (fun k => nI (D b (k - 4096 * b)))) = some (rowU I 9 (4096 * b) (4096 * b + 2 ^ nl) (fun k => nI (D b (k - 4096 * b)))) := by
  have p4 := p4096 hl
  intro N
  induction N with
  | zero => intro s h1 h2; omega
  | succ N ih =>
    intro s h1 h2
    rw [f_X9_pairs_L53]
    by_cases hs : s = 2 ^ nl
    · subst hs
      rw [if_pos (nI_le (Nat.le_refl _) (by omega))]
    · have hs : s < 2 ^ nl := by omega
      have i4 : (4096 : Int32) * nI b + (4096 : Int32) + nI s = nI (4096 * b + 4096 + s) := by rw [show (4096 : Int32) = nI 4096 from rfl, pk_mul, nI_add, nI_add]
      have i5 : (4096 : Int32) * nI b + nI s = nI (4096 * b + s) := by rw [show (4096 : Int32) = nI 4096 from rfl, pk_mul, nI_add]
      have rd : ∀ S', S' < 2 ^ nl → (rowU I 9 (4096 * b) (4096 * b + s) (fun k => nI (D b (k - 4096 * b)))) 9 (4096 * b + 4096 + S') = nI (D (b + 1) S') ∧ D (b + 1) S' ≤ 252000 := fun S' hS' => ⟨by rw [rowU_out (by omega)]; exact (hD S' hS').1, (hD S' hS').2⟩
      have L := m_pairs_L81 hf hl hb hs (rowU I 9 (4096 * b) (4096 * b + s) (fun k => nI (D b (k - 4096 * b)))) J (nI (2 ^ nl)) (by rw [rowU_ne (by decide)]; exact h0) (fun m hm => ⟨by rw [rowU_ne (by decide)]; exact (hP m hm).1, (hP m hm).2⟩) rd 8192 0 (by omega) (by omega)
      rw [if_neg (nI_ge hs (by omega)), if_pos km0, rq8, Option.bind_some, i4, if_pos (mx _ km9 (by omega) (by decide)), Option.bind_some, nI_c (by omega), (rd s hs).1, show (0 : Int32) = nI 0 from rfl]
      simp only [bst] at L
      rw [L, Option.bind_some, i5, if_pos (mx _ km9 (by omega) (by decide)), Option.bind_some, nI_c (by omega), nI_s1, rowU_s (by omega) (by
        show _ = nI (D b (4096 * b + s - 4096 * b))
        rw [show 4096 * b + s - 4096 * b = s by omega, hR s hs])]
      exact ih (s + 1) (by omega) (by omega)
theorem nI_m1z : nI 0 - (1 : Int32) < 0 := by decide
theorem m_pairs_L46 {P D : Nat → Nat → Nat} {nf nl : Nat} (hf : nf ≤ 12) (hl : nl ≤ 12) (I : mI) (J : mJ) (h0 : I 1 0 = nI nl) (hP : ∀ b m, b < nf → m < nl → I 8 (12 * b + m) = nI (P b m) ∧ P b m ≤ 21000) (hT : dTab P nf nl D) (hDle : ∀ b S, S < 2 ^ nl → D b S ≤ 252000) : ∀ (N c : Nat) (I' : mI), c ≤ nf → c < N → (∀ a k, a ≠ 9 → I' a k = I a k) → (∀ b S, c ≤ b → b ≤ nf → S < 2 ^ nl → I' 9 (4096 * b + S) = nI (D b S)) → ∃ I'', f_X9_pairs_L46 kM 0 (nI (2 ^ nl)) J rM N (nI c - 1) I' = some I'' ∧ (∀ a k, a ≠ 9 → I'' a k = I a k) ∧ ∀ b S, b ≤ nf → S < 2 ^ nl → I'' 9 (4096 * b + S) = nI (D b S) := by
  have p4 := p4096 hl
  intro N
  induction N with
  | zero => intro c I' h1 h2; omega
  | succ N ih =>
    intro c I' h1 h2 h3 h4
    rw [f_X9_pairs_L46]
    by_cases hc : c = 0
    · subst hc
      exact ⟨I', by rw [if_pos nI_m1z], h3, fun b S k1 k2 => h4 b S (Nat.zero_le b) k1 k2⟩
    · have hb : c - 1 < nf := by omega
      have L := m_pairs_L53 hf hl hb I' J (by rw [h3 1 0 (by decide)]; exact h0) (fun m hm => ⟨by rw [h3 8 _ (by decide)]; exact (hP (c - 1) m hb hm).1, (hP (c - 1) m hb hm).2⟩) (fun S' hS' => by
        have := h4 (c - 1 + 1) S' (by omega) (by omega) hS'
        rw [show 4096 * (c - 1) + 4096 + S' = 4096 * (c - 1 + 1) + S' by omega]
        exact ⟨this, hDle _ _ hS'⟩) (fun S hS => hT.2 (c - 1) hb S hS) 8192 0 (Nat.zero_le _) (by omega)
      rw [Nat.add_zero, rowU_0] at L
      rw [nI_m1 (by omega), if_neg (nI_pos (by omega)), show (0 : Int32) = nI 0 from rfl, L, Option.bind_some, sub1]
      refine ih (c - 1) _ (by omega) (by omega) (fun a k h => by rw [rowU_ne h]; exact h3 a k h) (fun b S k1 k2 k3 => ?_)
      by_cases e : b = c - 1
      · subst e
        rw [rowU_in (by omega) (by omega), show 4096 * (c - 1) + S - 4096 * (c - 1) = S by omega]
      · rw [rowU_out (by omega)]
        exact h4 b S (by omega) k2 k3
theorem m_pairs {P : Nat → Nat → Nat} {nf nl : Nat} (hf : nf ≤ 12) (hl : nl ≤ 12) (I : mI) (J : mJ) (h0 : I 1 0 = nI nl) (h1 : I 1 1 = nI nf) (hP : ∀ b m, b < nf → m < nl → I 8 (12 * b + m) = nI (P b m) ∧ P b m ≤ 21000) : ∃ I'', f_X9_pairs kM 0 I J rM = some (nI (dD P nf nl 0 0), I'') ∧ (∀ a k, a ≠ 9 → I'' a k = I a k) ∧ ∀ b S, b ≤ nf → S < 2 ^ nl → I'' 9 (4096 * b + S) = nI (dD P nf nl b S) := by
  have p4 := p4096 hl
  have hT := dD_tab P nf nl
  have hle : ∀ b S, S < 2 ^ nl → dD P nf nl b S ≤ 252000 := fun b S hS => dD_le hf (fun b m k1 k2 => (hP b m k1 k2).2) hS
  have L18 := m_pairs_L18 hf (show 2 ^ nl ≤ 4096 from p4) I J 8192 0 (Nat.zero_le _) (by omega)
  rw [Nat.add_zero, rowU_0] at L18
  obtain ⟨I'', o1, o2, o3⟩ := m_pairs_L46 hf hl I J h0 hP hT hle 8192 nf (rowU I 9 (4096 * nf) (4096 * nf + 2 ^ nl) (fun _ => 0)) (Nat.le_refl _) (by omega) (fun a k h => rowU_ne h) (fun b S k1 k2 k3 => by
    have : b = nf := by omega
    subst this
    rw [rowU_in (by omega) (by omega), hT.1 S k3]
    rfl)
  refine ⟨I'', ?_, o2, o3⟩
  rw [f_X9_pairs, if_pos km0, rq0, Option.bind_some, show (0 : Int32) = nI 0 from rfl, show (1 : Int32) = nI 1 from rfl, if_pos (mx 1 km1 (by decide) (by decide)), if_pos (mx 0 km1 (by decide) (by decide)), Option.bind_some, nI_c (show 0 < 2 ^ 31 by decide), nI_c (show 1 < 2 ^ 31 by decide), h0, h1, show nI 1 <<< (nI nl &&& 31) = nI (2 ^ nl) from one_shl (by omega), L18, Option.bind_some, show nI nf - nI 1 = nI nf - 1 from rfl, o1, Option.bind_some, rq8, Option.bind_some, if_pos (mx 0 km9 (by decide) (by decide))]
  have := o3 0 0 (Nat.zero_le _) (Nat.pow_pos (by decide))
  rw [show 4096 * 0 + 0 = 0 from rfl] at this
  rw [this]
