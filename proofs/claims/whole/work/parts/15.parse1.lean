/-! ===== reading a law's text ===== -/
def blk (x : Int32) : Bool := decide (x = 32) || decide (x = 10)
def rng (lo hi x : Int32) : Bool := !decide (x < lo) && !decide (hi < x)
def runE (q : Nat → Bool) : Nat → Nat → Nat
  | 0, p => p
  | d + 1, p => if q p = true then runE q d (p + 1) else p
theorem runE_le (q : Nat → Bool) : ∀ d p, p ≤ runE q d p ∧ runE q d p ≤ p + d
  | 0, p => ⟨Nat.le_refl p, Nat.le_refl p⟩
  | d + 1, p => by
    have ih := runE_le q d (p + 1)
    simp only [runE]
    split <;> omega
theorem runE_in (q : Nat → Bool) : ∀ d p i, p ≤ i → i < runE q d p → q i = true
  | 0, p, i, h1, h2 => by simp only [runE] at h2; omega
  | d + 1, p, i, h1, h2 => by
    simp only [runE] at h2
    split at h2
    · rename_i hq
      by_cases e : i = p
      · rw [e]; exact hq
      · exact runE_in q d (p + 1) i (by omega) h2
    · omega
theorem runE_stop (q : Nat → Bool) : ∀ d p, runE q d p < p + d → q (runE q d p) = false
  | 0, p, h => by simp only [runE] at h; omega
  | d + 1, p, h => by
    simp only [runE] at h ⊢
    split
    · rename_i hq
      rw [if_pos hq] at h
      exact runE_stop q d (p + 1) (by omega)
    · rename_i hq
      simpa using hq
def sk (T : Nat → Int32) (n p : Nat) : Nat := runE (fun i => blk (T i)) (n - p) p
def er (T : Nat → Int32) (lo hi : Int32) (n p : Nat) : Nat := runE (fun i => rng lo hi (T i)) (n - p) p
theorem sk_le {T : Nat → Int32} {n p : Nat} (h : p ≤ n) : p ≤ sk T n p ∧ sk T n p ≤ n := by
  have := runE_le (fun i => blk (T i)) (n - p) p
  unfold sk
  omega
theorem er_le {T : Nat → Int32} {lo hi : Int32} {n p : Nat} (h : p ≤ n) : p ≤ er T lo hi n p ∧ er T lo hi n p ≤ n := by
  have := runE_le (fun i => rng lo hi (T i)) (n - p) p
  unfold er
  omega
theorem sk_sk {T : Nat → Int32} {n p : Nat} (h : p ≤ n) : sk T n (sk T n p) = sk T n p := by
  have h1 := sk_le (T := T) h
  have h2 := runE_stop (fun i => blk (T i)) (n - p) p
  by_cases e : sk T n p = n
  · unfold sk at e ⊢
    rw [e, Nat.sub_self]
    rfl
  · have h3 : blk (T (sk T n p)) = false := h2 (by unfold sk at h1 e; omega)
    obtain ⟨d, hd⟩ : ∃ d, n - sk T n p = d + 1 := ⟨n - sk T n p - 1, by omega⟩
    conv => lhs; unfold sk
    rw [show n - runE (fun i => blk (T i)) (n - p) p = d + 1 from hd]
    show runE (fun i => blk (T i)) (d + 1) (sk T n p) = sk T n p
    simp only [runE]
    rw [if_neg (by rw [h3]; decide)]
theorem mup_id {I : mI} {a k : Nat} {v : Int32} (h : I a k = v) : mup I a k v = I := by
  funext i j
  by_cases e : i = a ∧ j = k
  · rw [e.1, e.2, mup_eq, h]
  · rw [mup_ne _ _ e]
theorem blk_f {x : Int32} (h : blk x = false) : ¬ x = 32 ∧ ¬ x = 10 := by
  simp only [blk, Bool.or_eq_false_iff, decide_eq_false_iff_not] at h
  exact h
theorem x_skip {R : mR} (hk : R 168 0 = some 167) {T : Nat → Int32} {n : Nat} (hn : n ≤ 500) (J : mJ) {I : mI} {p : Nat} (hp : p ≤ n) (h1 : I 168 1 = nI n) (h2 : I 168 2 = nI p) (hT : ∀ i, i < n → I 167 i = T i) : f_X5_skipBlanks kX 168 I J R = some (mup I 168 2 (nI (sk T n p))) := by
  have Lp : ∀ (N d p : Nat) (I : mI), p + d = n → d < N → I 168 1 = nI n → I 168 2 = nI p → (∀ i, i < n → I 167 i = T i) → f_X5_skipBlanks_L0 kX 168 J R N I = some (mup I 168 2 (nI (runE (fun i => blk (T i)) d p))) := by
    intro N
    induction N with
    | zero => intro d p I e1 e2; omega
    | succ N ih =>
      intro d p I e1 e2 h1 h2 hT
      rw [f_X5_skipBlanks_L0, if_pos q168, h1, h2]
      by_cases hd : d = 0
      · subst hd
        rw [if_pos (nI_le (by omega) (by omega))]
        exact congrArg some (mup_id h2).symm
      · obtain ⟨d', rfl⟩ : ∃ d', d = d' + 1 := ⟨d - 1, by omega⟩
        have step := ih d' (p + 1) (mup I 168 2 (nI (p + 1))) (by omega) (by omega) (by rw [mup_ne _ _ (by omega)]; exact h1) (mup_eq _ _ _ _) (fun i hi => by rw [mup_ne _ _ (by omega)]; exact hT i hi)
        rw [mup_twice] at step
        rw [if_neg (nI_ge (show p < n by omega) (by omega)), hk, Option.bind_some, if_pos (mx p q167 (by omega) (by decide)), nI_c (by omega), hT p (by omega), nI_s1]
        simp only [runE]
        by_cases z1 : T p = 32
        · rw [if_pos z1, Option.bind_some, if_pos (by simp [blk, z1])]
          exact step
        · rw [if_neg z1]
          by_cases z2 : T p = 10
          · rw [if_pos z2, Option.bind_some, if_pos (by simp [blk, z2])]
            exact step
          · rw [if_neg z2, if_neg (by simp [blk, z1, z2])]
            exact congrArg some (mup_id h2).symm
  rw [f_X5_skipBlanks, Lp 8192 (n - p) p I (by omega) (by omega) h1 h2 hT, Option.bind_some]
  rfl
theorem m_blanks {T : Nat → Int32} {n : Nat} (hn : n ≤ 500) (J : mJ) {I : mI} {p : Nat} (hp : p ≤ n) (h1 : I 0 18 = nI n) (h2 : I 0 19 = nI p) (hT : ∀ i, i < n → I 16 i = T i) : f_X9_blanks kM 0 I J rM = some (mup I 0 19 (nI (sk T n p))) := by
  have Lp : ∀ (N d p : Nat) (I : mI), p + d = n → d < N → I 0 18 = nI n → I 0 19 = nI p → (∀ i, i < n → I 16 i = T i) → f_X9_blanks_L0 kM 0 J rM N I = some (mup I 0 19 (nI (runE (fun i => blk (T i)) d p))) := by
    intro N
    induction N with
    | zero => intro d p I e1 e2; omega
    | succ N ih =>
      intro d p I e1 e2 h1 h2 hT
      rw [f_X9_blanks_L0, if_pos km0, h1, h2]
      by_cases hd : d = 0
      · subst hd
        rw [if_pos (nI_le (by omega) (by omega))]
        exact congrArg some (mup_id h2).symm
      · obtain ⟨d', rfl⟩ : ∃ d', d = d' + 1 := ⟨d - 1, by omega⟩
        have step := ih d' (p + 1) (mup I 0 19 (nI (p + 1))) (by omega) (by omega) (by rw [mup_ne _ _ (by omega)]; exact h1) (mup_eq _ _ _ _) (fun i hi => by rw [mup_ne _ _ (by omega)]; exact hT i hi)
        rw [mup_twice] at step
        rw [if_neg (nI_ge (show p < n by omega) (by omega)), rq16, Option.bind_some, if_pos (mx p km16 (by omega) (by decide)), nI_c (by omega), hT p (by omega), nI_s1]
        simp only [runE]
        by_cases z1 : T p = 32
        · rw [if_pos z1, Option.bind_some, if_pos (by simp [blk, z1])]
          exact step
        · rw [if_neg z1]
          by_cases z2 : T p = 10
          · rw [if_pos z2, Option.bind_some, if_pos (by simp [blk, z2])]
            exact step
          · rw [if_neg z2, if_neg (by simp [blk, z1, z2])]
            exact congrArg some (mup_id h2).symm
  rw [f_X9_blanks, Lp 8192 (n - p) p I (by omega) (by omega) h1 h2 hT, Option.bind_some]
  rfl
theorem x_run {R : mR} (hk : R 168 0 = some 167) {T : Nat → Int32} {n : Nat} (hn : n ≤ 500) (lo hi : Int32) (J : mJ) {I : mI} {p : Nat} (hp : p ≤ n) (h1 : I 168 1 = nI n) (h2 : I 168 2 = nI p) (hT : ∀ i, i < n → I 167 i = T i) : f_X5_endOfRun kX 168 lo hi I J R = some (nI (er T lo hi n p)) := by
  have Lp : ∀ (N d p : Nat), p + d = n → d < N → f_X5_endOfRun_L5 kX 168 lo hi I J R N (nI p) = some (nI (runE (fun i => rng lo hi (T i)) d p)) := by
    intro N
    induction N with
    | zero => intro d p e1 e2; omega
    | succ N ih =>
      intro d p e1 e2
      rw [f_X5_endOfRun_L5, if_pos q168, h1]
      by_cases hd : d = 0
      · subst hd
        rw [if_pos (nI_le (by omega) (by omega))]
        rfl
      · obtain ⟨d', rfl⟩ : ∃ d', d = d' + 1 := ⟨d - 1, by omega⟩
        have step := ih d' (p + 1) (by omega) (by omega)
        rw [if_neg (nI_ge (show p < n by omega) (by omega)), hk, Option.bind_some, if_pos (mx p q167 (by omega) (by decide)), nI_c (by omega), hT p (by omega), x_win, Option.bind_some, nI_s1]
        simp only [runE]
        by_cases z : rng lo hi (T p) = true
        · rw [if_pos z, show (!decide (T p < lo) && !decide (hi < T p)) = true from z, imt]; exact step
        · rw [if_neg z]
          have z : rng lo hi (T p) = false := by simpa using z
          rw [show (!decide (T p < lo) && !decide (hi < T p)) = false from z, imf]
  rw [f_X5_endOfRun, if_pos q168, h2, Lp 8192 (n - p) p (by omega) (by omega), Option.bind_some]
  rfl
/-! what is told while reading -/
def PT (T : Nat → Int32) (n : Nat) (I0 I0' : mI) : Prop := n ≤ 500 ∧ (∀ i, i < n → I0 167 i = T i) ∧ ∀ i, i < n → I0' 16 i = T i
def PX (I0 : mI) (n L' p : Nat) (dw : Nat → Nat) (I : mI) : Prop := (∀ a k, ¬ (a = 168 ∧ 1 ≤ k ∧ k ≤ 3) → ¬ (L' + 1 ≤ a ∧ a ≤ L' + 4) → I a k = I0 a k) ∧ I 168 1 = nI n ∧ I 168 2 = nI p ∧ XL I L' dw
def PM (I0 : mI) (n p : Nat) (dw : Nat → Nat) (I : mI) : Prop := (∀ a k, ¬ (a = 0 ∧ 18 ≤ k ∧ k ≤ 22 ∧ k ≠ 20) → ¬ (a = 14 ∧ 21 ≤ k) → I a k = I0 a k) ∧ I 0 18 = nI n ∧ I 0 19 = nI p ∧ ∀ i, i < 21 → I 14 (21 + i) = nI (dw i)
theorem PX.T {I0 I0' : mI} {n L' p : Nat} {dw : Nat → Nat} {I : mI} {T : Nat → Int32} (h : PX I0 n L' p dw I) (hL : 180 ≤ L') (hT : PT T n I0 I0') : ∀ i, i < n → I 167 i = T i := fun i hi => (h.1 167 i (by omega) (by omega)).trans (hT.2.1 i hi)
theorem PM.T {I0 I0' : mI} {n p : Nat} {dw : Nat → Nat} {I : mI} {T : Nat → Int32} (h : PM I0' n p dw I) (hT : PT T n I0 I0') : ∀ i, i < n → I 16 i = T i := fun i hi => (h.1 16 i (by omega) (by omega)).trans (hT.2.2 i hi)
theorem PX.mv {I0 : mI} {n L' p : Nat} {dw : Nat → Nat} {I : mI} (h : PX I0 n L' p dw I) (hL : 180 ≤ L') (q : Nat) : PX I0 n L' q dw (mup I 168 2 (nI q)) := ⟨fun a k n1 n2 => by rw [mup_ne _ _ (by omega)]; exact h.1 a k n1 n2, by rw [mup_ne _ _ (by omega)]; exact h.2.1, mup_eq _ _ _ _, h.2.2.2.cg (fun a k h => mup_ne _ _ (by omega))⟩
theorem PX.nu {I0 : mI} {n L' p : Nat} {dw : Nat → Nat} {I : mI} (h : PX I0 n L' p dw I) (hL : 180 ≤ L') (v : Int32) : PX I0 n L' p dw (mup I 168 3 v) := ⟨fun a k n1 n2 => by rw [mup_ne _ _ (by omega)]; exact h.1 a k n1 n2, by rw [mup_ne _ _ (by omega)]; exact h.2.1, by rw [mup_ne _ _ (by omega)]; exact h.2.2.1, h.2.2.2.cg (fun a k h => mup_ne _ _ (by omega))⟩
theorem PM.mv {I0 : mI} {n p : Nat} {dw : Nat → Nat} {I : mI} (h : PM I0 n p dw I) (q : Nat) : PM I0 n q dw (mup I 0 19 (nI q)) := ⟨fun a k n1 n2 => by rw [mup_ne _ _ (by omega)]; exact h.1 a k n1 n2, by rw [mup_ne _ _ (by omega)]; exact h.2.1, mup_eq _ _ _ _, fun i hi => by rw [mup_ne _ _ (by omega)]; exact h.2.2.2 i hi⟩
theorem PM.we {I0 : mI} {n p : Nat} {dw : Nat → Nat} {I : mI} (h : PM I0 n p dw I) {k0 : Nat} (hk : k0 = 21 ∨ k0 = 22) (v : Int32) : PM I0 n p dw (mup I 0 k0 v) := ⟨fun a k n1 n2 => by rw [mup_ne _ _ (by omega)]; exact h.1 a k n1 n2, by rw [mup_ne _ _ (by omega)]; exact h.2.1, by rw [mup_ne _ _ (by omega)]; exact h.2.2.1, fun i hi => by rw [mup_ne _ _ (by omega)]; exact h.2.2.2 i hi⟩
