/-! ===== cards ===== -/
def so (t : Nat) : Nat := if t = 0 then 0 else if t < 9 then 1 else if t < 13 then 2 else if t < 16 then 3 else if t < 19 then 4 else 0
def si (t : Nat) : Nat := if t = 0 then 0 else if t < 9 then t - 1 else if t < 13 then t - 9 else if t < 16 then t - 13 else if t < 19 then t - 16 else t - 18
def cid (F : Nat) : Nat := if F < 12 then 3 + 5 * F else 6 + 5 * F
theorem so_le : ∀ t, t < 22 → so t ≤ 4 := by decide
theorem so_si : ∀ t, t < 22 → ∀ t', t' < 22 → so t = so t' → si t = si t' → t = t' := by decide
theorem cid_so {F F' s s' : Nat} (hs : s ≤ 4) (hs' : s' ≤ 4) (e : cid F + s = cid F' + s') : F = F' ∧ s = s' := by
  unfold cid at e
  split at e <;> split at e <;> omega
/-- what a card holds: 0 the sex, 1 to 8 teeth, 9 to 12 marks, 13 to 15 sheets, 16 to 18 the parent's, 19 from, 20 to, 21 pieces -/
def cardv (I : mI) (a : Nat) (c : Nat → Nat) : Prop := ∀ t, t < 22 → I (a + so t) (si t) = nI (c t)
def bodyv (I : mI) (a : Nat) (c : Nat → Nat) : Prop := ∀ t, t < 22 → (t < 16 ∨ 19 ≤ t) → I (a + so t) (si t) = nI (c t)
theorem cardv.b {I : mI} {a : Nat} {c : Nat → Nat} (h : cardv I a c) : bodyv I a c := fun t h1 _ => h t h1
theorem bodyv.s {I : mI} {a : Nat} {c : Nat → Nat} (h : bodyv I a c) : I a 0 = nI (c 0) ∧ I a 1 = nI (c 19) ∧ I a 2 = nI (c 20) ∧ I a 3 = nI (c 21) := ⟨h 0 (by decide) (by decide), h 19 (by decide) (by decide), h 20 (by decide) (by decide), h 21 (by decide) (by decide)⟩
theorem bodyv.t {I : mI} {a : Nat} {c : Nat → Nat} (h : bodyv I a c) {k : Nat} (hk : k < 8) : I (a + 1) k = nI (c (1 + k)) := by
  have := h (1 + k) (by omega) (by omega)
  rw [show so (1 + k) = 1 by (unfold so; rw [if_neg (by omega), if_pos (by omega)]), show si (1 + k) = k by (unfold si; rw [if_neg (by omega), if_pos (by omega)]; omega)] at this
  exact this
theorem bodyv.m {I : mI} {a : Nat} {c : Nat → Nat} (h : bodyv I a c) {k : Nat} (hk : k < 4) : I (a + 2) k = nI (c (9 + k)) := by
  have := h (9 + k) (by omega) (by omega)
  rw [show so (9 + k) = 2 by (unfold so; rw [if_neg (by omega), if_neg (by omega), if_pos (by omega)]), show si (9 + k) = k by (unfold si; rw [if_neg (by omega), if_neg (by omega), if_pos (by omega)]; omega)] at this
  exact this
theorem bodyv.h {I : mI} {a : Nat} {c : Nat → Nat} (h : bodyv I a c) {k : Nat} (hk : k < 3) : I (a + 3) k = nI (c (13 + k)) := by
  have := h (13 + k) (by omega) (by omega)
  rw [show so (13 + k) = 3 by (unfold so; rw [if_neg (by omega), if_neg (by omega), if_neg (by omega), if_pos (by omega)]), show si (13 + k) = k by (unfold si; rw [if_neg (by omega), if_neg (by omega), if_neg (by omega), if_pos (by omega)]; omega)] at this
  exact this
theorem cardv.p {I : mI} {a : Nat} {c : Nat → Nat} (h : cardv I a c) {k : Nat} (hk : k < 3) : I (a + 4) k = nI (c (16 + k)) := by
  have := h (16 + k) (by omega)
  rw [show so (16 + k) = 4 by (unfold so; rw [if_neg (by omega), if_neg (by omega), if_neg (by omega), if_neg (by omega), if_pos (by omega)]), show si (16 + k) = k by (unfold si; rw [if_neg (by omega), if_neg (by omega), if_neg (by omega), if_neg (by omega), if_pos (by omega)]; omega)] at this
  exact this
theorem bodyv.of {I : mI} {a : Nat} {c : Nat → Nat} (h0 : I a 0 = nI (c 0)) (h1 : I a 1 = nI (c 19)) (h2 : I a 2 = nI (c 20)) (h3 : I a 3 = nI (c 21)) (ht : ∀ k, k < 8 → I (a + 1) k = nI (c (1 + k))) (hm : ∀ k, k < 4 → I (a + 2) k = nI (c (9 + k))) (hh : ∀ k, k < 3 → I (a + 3) k = nI (c (13 + k))) : bodyv I a c := by
  intro t t1 t2
  by_cases e0 : t = 0
  · subst e0; exact h0
  by_cases e1 : t < 9
  · have := ht (t - 1) (by omega)
    rw [show so t = 1 by (unfold so; rw [if_neg (by omega), if_pos (by omega)]), show si t = t - 1 by (unfold si; rw [if_neg (by omega), if_pos (by omega)]), this, show 1 + (t - 1) = t by omega]
  by_cases e2 : t < 13
  · have := hm (t - 9) (by omega)
    rw [show so t = 2 by (unfold so; rw [if_neg (by omega), if_neg (by omega), if_pos (by omega)]), show si t = t - 9 by (unfold si; rw [if_neg (by omega), if_neg (by omega), if_pos (by omega)]), this, show 9 + (t - 9) = t by omega]
  by_cases e3 : t < 16
  · have := hh (t - 13) (by omega)
    rw [show so t = 3 by (unfold so; rw [if_neg (by omega), if_neg (by omega), if_neg (by omega), if_pos (by omega)]), show si t = t - 13 by (unfold si; rw [if_neg (by omega), if_neg (by omega), if_neg (by omega), if_pos (by omega)]), this, show 13 + (t - 13) = t by omega]
  · rcases (show t = 19 ∨ t = 20 ∨ t = 21 by omega) with rfl | rfl | rfl
    · exact h1
    · exact h2
    · exact h3
/-- a card's shape -/
def isC (R : mR) (a : Nat) : Prop := kX a = (0, 1) ∧ kX (a + 1) = (1, 8) ∧ kX (a + 2) = (1, 4) ∧ kX (a + 3) = (1, 3) ∧ kX (a + 4) = (1, 3) ∧ R a 4 = some (a + 1) ∧ R a 5 = some (a + 2) ∧ R a 6 = some (a + 3) ∧ R a 7 = some (a + 4)
set_option maxRecDepth 20000 in
theorem isC_cid : ∀ F, F < 24 → isC rX (cid F) := by
  unfold isC
  decide +kernel
set_option maxRecDepth 20000 in
theorem isC_seen : isC rX 170 ∧ isC rX 175 := by
  unfold isC
  decide +kernel
theorem isC.of {R : mR} {L L' a : Nat} (hR : XR R L L') (ha : 1 ≤ a ∧ a ≠ 168) (h : isC rX a) : isC R a := by
  obtain ⟨h1, h2, h3, h4, h5, h6, h7, h8, h9⟩ := h
  exact ⟨h1, h2, h3, h4, h5, hR.at (by omega) (by omega) h6, hR.at (by omega) (by omega) h7, hR.at (by omega) (by omega) h8, hR.at (by omega) (by omega) h9⟩
theorem cid_rng {F : Nat} (h : F < 24) : 3 ≤ cid F ∧ cid F ≤ 121 := by unfold cid; split <;> omega
theorem XR.card {R : mR} {L L' F : Nat} (hR : XR R L L') (h : F < 24) : isC R (cid F) := isC.of hR (by have := cid_rng h; omega) (isC_cid F h)
theorem XR.seen {R : mR} {L L' : Nat} (hR : XR R L L') : isC R 170 ∧ isC R 175 := ⟨isC.of hR (by decide) isC_seen.1, isC.of hR (by decide) isC_seen.2⟩
theorem x_forgetRow {p n : Nat} (hp : kX p = (1, n)) (hn : n < 100) (I : mI) (J : mJ) (R : mR) : f_X1_forgetRow kX p I J R = some (rowU I p 0 n (fun _ => 0)) := by
  have L : ∀ (N j : Nat), j ≤ n → n - j < N → f_X1_forgetRow_L2 kX p J R N (nI j) (rowU I p 0 j (fun _ => 0)) = some (rowU I p 0 n (fun _ => 0)) := by
    intro N
    induction N with
    | zero => intro j h1 h2; omega
    | succ N ih =>
      intro j h1 h2
      rw [f_X1_forgetRow_L2, if_pos (by rw [hp])]
      by_cases hj : j = n
      · subst hj
        rw [if_pos (by rw [hp]; exact nI_le (Nat.le_refl _) (by omega))]
      · rw [if_neg (by rw [hp]; exact nI_ge (by omega) (by omega)), if_pos (mx j hp (by omega) (by omega)), Option.bind_some, nI_c (by omega), nI_s1, rowU_s (Nat.zero_le _) rfl]
        exact ih (j + 1) (by omega) (by omega)
  have := L 8192 0 (Nat.zero_le _) (by omega)
  rw [rowU_0] at this
  rw [f_X1_forgetRow, show f_X1_forgetRow_L2 kX p J R 8192 0 I = _ from this, Option.bind_some]
theorem x_learnRow {p q n : Nat} (hp : kX p = (1, n)) (hq : kX q = (1, n)) (hpq : q ≠ p) (hn : n < 100) (I : mI) (J : mJ) (R : mR) : f_X1_learnRow kX p q I J R = some (rowU I p 0 n (fun k => if I p k = 0 then I q k else I p k)) := by
  have L : ∀ (N j : Nat), j ≤ n → n - j < N → f_X1_learnRow_L2 kX p q J R N (nI j) (rowU I p 0 j (fun k => if I p k = 0 then I q k else I p k)) = some (rowU I p 0 n (fun k => if I p k = 0 then I q k else I p k)) := by
    intro N
    induction N with
    | zero => intro j h1 h2; omega
    | succ N ih =>
      intro j h1 h2
      rw [f_X1_learnRow_L2, if_pos (by rw [hp])]
      by_cases hj : j = n
      · subst hj
        rw [if_pos (by rw [hp]; exact nI_le (Nat.le_refl _) (by omega))]
      · have ih' := ih (j + 1) (by omega) (by omega)
        rw [if_neg (by rw [hp]; exact nI_ge (by omega) (by omega)), if_pos (by rw [hq]), if_neg (by rw [hq]; exact nI_ge (by omega) (by omega)), if_pos (mx j hp (by omega) (by omega)), nI_c (by omega), nI_s1, rowU_out (by omega)]
        by_cases h0 : I p j = 0
        · rw [if_pos h0, if_pos (mx j hq (by omega) (by omega)), Option.bind_some, rowU_ne hpq, rowU_s (Nat.zero_le _) (by rw [if_pos h0])]
          exact ih'
        · rw [if_neg h0, rowU_k (Nat.zero_le j) (by rw [if_neg h0])]
          exact ih'
  have := L 8192 0 (Nat.zero_le _) (by omega)
  rw [rowU_0] at this
  rw [f_X1_learnRow, show f_X1_learnRow_L2 kX p q J R 8192 0 I = _ from this, Option.bind_some]
theorem x_forget {R : mR} {a : Nat} (hC : isC R a) (I : mI) (J : mJ) : ∃ I', f_X1_forget kX a I J R = some I' ∧ bodyv I' a (fun t => if t = 20 then 120 else 0) ∧ ∀ i k, i ≠ a → i ≠ a + 1 → i ≠ a + 2 → i ≠ a + 3 → I' i k = I i k := by
  obtain ⟨k0, k1, k2, k3, k4, r4, r5, r6, r7⟩ := hC
  rw [f_X1_forget, if_pos k0, Option.bind_some, Option.bind_some, Option.bind_some, Option.bind_some, r4, Option.bind_some, x_forgetRow k1 (by decide), Option.bind_some, r5, Option.bind_some, x_forgetRow k2 (by decide), Option.bind_some, r6, Option.bind_some, x_forgetRow k3 (by decide), Option.bind_some]
  refine ⟨_, rfl, bodyv.of ?_ ?_ ?_ ?_ (fun k hk => ?_) (fun k hk => ?_) (fun k hk => ?_), fun i k h0 h1 h2 h3 => ?_⟩
  · rw [rowU_ne (by omega), rowU_ne (by omega), rowU_ne (by omega), mup_ne _ _ (by omega), mup_ne _ _ (by omega), mup_ne _ _ (by omega), mup_eq]; rfl
  · rw [rowU_ne (by omega), rowU_ne (by omega), rowU_ne (by omega), mup_ne _ _ (by omega), mup_ne _ _ (by omega), mup_eq]; rfl
  · rw [rowU_ne (by omega), rowU_ne (by omega), rowU_ne (by omega), mup_ne _ _ (by omega), mup_eq]; rfl
  · rw [rowU_ne (by omega), rowU_ne (by omega), rowU_ne (by omega), mup_eq]; rfl
  · rw [rowU_ne (by omega), rowU_ne (by omega), rowU_in (by omega) hk, if_neg (by omega)]; rfl
  · rw [rowU_ne (by omega), rowU_in (by omega) hk, if_neg (by omega)]; rfl
  · rw [rowU_in (by omega) hk, if_neg (by omega)]; rfl
  · rw [rowU_ne h3, rowU_ne h2, rowU_ne h1, mup_ne _ _ (fun z => h0 z.1), mup_ne _ _ (fun z => h0 z.1), mup_ne _ _ (fun z => h0 z.1), mup_ne _ _ (fun z => h0 z.1)]
/-- what a card knows behind a file -/
def lrn (c d : Nat → Nat) : Nat → Nat := fun t => if t = 19 then max (c 19) (d 19) else if t = 20 then min (c 20) (d 20) else if t = 21 then c 21 ||| d 21 else if c t = 0 then d t else c t
theorem nI_z {n : Nat} (h : n < 2 ^ 31) : nI n = 0 ↔ n = 0 := by
  have := nI_eq h (show 0 < 2 ^ 31 by decide)
  rw [nI_0] at this
  exact this
theorem x_learn {R : mR} {a x : Nat} (hC : isC R a) (hX : isC R x) (hax : x + 4 < a ∨ a + 4 < x) {c d : Nat → Nat} (hc : ∀ t, t < 22 → c t < 1000) (hd : ∀ t, t < 22 → d t < 1000) (I : mI) (J : mJ) (h1 : bodyv I a c) (h2 : bodyv I x d) : ∃ I', f_X1_learn kX a x I J R = some I' ∧ bodyv I' a (lrn c d) ∧ ∀ i k, i ≠ a → i ≠ a + 1 → i ≠ a + 2 → i ≠ a + 3 → I' i k = I i k := by
  obtain ⟨k0, k1, k2, k3, k4, r4, r5, r6, r7⟩ := hC
  obtain ⟨l0, l1, l2, l3, l4, s4, s5, s6, s7⟩ := hX
  obtain ⟨a0, a1, a2, a3⟩ := h1.s
  obtain ⟨b0, b1, b2, b3⟩ := h2.s
  have c0 := hc 0 (by decide)
  have c19 := hc 19 (by decide)
  have c20 := hc 20 (by decide)
  have d19 := hd 19 (by decide)
  have d20 := hd 20 (by decide)
  -- the rest, behind the sex
  have tail : ∀ I1 : mI, (∀ i k, ¬ (i = a ∧ k = 0) → I1 i k = I i k) → I1 a 0 = nI (lrn c d 0) → ∃ I', ((some (mup I1 a 1 (imax (I1 a 1) (I1 x 1)))).bind fun I31 =>
  (some (mup I31 a 2 (imin (I31 a 2) (I31 x 2)))).bind fun I33 =>
  (some (mup I33 a 3 ((I33 a 3) ||| (I33 x 3)))).bind fun I35 =>
  (R a 4).bind fun x37 =>
  (R x 4).bind fun x39 =>
  (f_X1_learnRow kX x37 x39 I35 J R).bind fun z41 =>
  (R a 5).bind fun x43 =>
  (R x 5).bind fun x45 =>
  (f_X1_learnRow kX x43 x45 z41 J R).bind fun z47 =>
  (R a 6).bind fun x49 =>
  (R x 6).bind fun x51 =>
  (f_X1_learnRow kX x49 x51 z47 J R).bind fun z53 =>
  some z53) = some I' ∧ bodyv I' a (lrn c d) ∧ ∀ i k, i ≠ a → i ≠ a + 1 → i ≠ a + 2 → i ≠ a + 3 → I' i k = I i k := by
    intro I1 e1 e2
    rw [Option.bind_some, Option.bind_some, Option.bind_some, r4, Option.bind_some, s4, Option.bind_some, x_learnRow k1 l1 (by omega) (by decide), Option.bind_some, r5, Option.bind_some, s5, Option.bind_some, x_learnRow k2 l2 (by omega) (by decide), Option.bind_some, r6, Option.bind_some, s6, Option.bind_some, x_learnRow k3 l3 (by omega) (by decide), Option.bind_some]
    generalize hI4 : mup (mup (mup I1 a 1 (imax (I1 a 1) (I1 x 1))) a 2 (imin ((mup I1 a 1 (imax (I1 a 1) (I1 x 1))) a 2) ((mup I1 a 1 (imax (I1 a 1) (I1 x 1))) x 2))) a 3 (((mup (mup I1 a 1 (imax (I1 a 1) (I1 x 1))) a 2 (imin ((mup I1 a 1 (imax (I1 a 1) (I1 x 1))) a 2) ((mup I1 a 1 (imax (I1 a 1) (I1 x 1))) x 2))) a 3) ||| ((mup (mup I1 a 1 (imax (I1 a 1) (I1 x 1))) a 2 (imin ((mup I1 a 1 (imax (I1 a 1) (I1 x 1))) a 2) ((mup I1 a 1 (imax (I1 a 1) (I1 x 1))) x 2))) x 3)) = I4
    have n4 : ∀ i k, i ≠ a → I4 i k = I i k := fun i k h => by rw [← hI4, mup_ne _ _ (fun z => h z.1), mup_ne _ _ (fun z => h z.1), mup_ne _ _ (fun z => h z.1)]; exact e1 i k (fun z => h z.1)
    have v0 : I4 a 0 = nI (lrn c d 0) := by rw [← hI4, mup_ne _ _ (by omega), mup_ne _ _ (by omega), mup_ne _ _ (by omega)]; exact e2
    have v1 : I4 a 1 = nI (lrn c d 19) := by
      rw [← hI4, mup_ne _ _ (by omega), mup_ne _ _ (by omega), mup_eq, e1 a 1 (by omega), e1 x 1 (by omega), a1, b1, imax_nI (by omega) (by omega)]
      rfl
    have v2 : I4 a 2 = nI (lrn c d 20) := by
      rw [← hI4, mup_ne _ _ (by omega), mup_eq, mup_ne _ _ (by omega), mup_ne _ _ (by omega), e1 a 2 (by omega), e1 x 2 (by omega), a2, b2, imin_nI (by omega) (by omega)]
      rfl
    have v3 : I4 a 3 = nI (lrn c d 21) := by
      rw [← hI4, mup_eq, mup_ne _ _ (by omega), mup_ne _ _ (by omega), mup_ne _ _ (by omega), mup_ne _ _ (by omega), e1 a 3 (by omega), e1 x 3 (by omega), a3, b3, fa_or]
      rfl
    have rowv : ∀ t, 1 ≤ t → t < 16 → (if nI (c t) = 0 then nI (d t) else nI (c t)) = nI (lrn c d t) := fun t t1 t2 => by
      have q := hc t (by omega)
      rw [show lrn c d t = if c t = 0 then d t else c t by (unfold lrn; rw [if_neg (by omega), if_neg (by omega), if_neg (by omega)])]
      by_cases h0 : c t = 0
      · rw [if_pos ((nI_z (by omega)).mpr h0), if_pos h0]
      · rw [if_neg (fun z => h0 ((nI_z (by omega)).mp z)), if_neg h0]
    refine ⟨_, rfl, bodyv.of ?_ ?_ ?_ ?_ (fun k hk => ?_) (fun k hk => ?_) (fun k hk => ?_), fun i k h0 h1 h2 h3 => ?_⟩
    · rw [rowU_ne (by omega), rowU_ne (by omega), rowU_ne (by omega)]; exact v0
    · rw [rowU_ne (by omega), rowU_ne (by omega), rowU_ne (by omega)]; exact v1
    · rw [rowU_ne (by omega), rowU_ne (by omega), rowU_ne (by omega)]; exact v2
    · rw [rowU_ne (by omega), rowU_ne (by omega), rowU_ne (by omega)]; exact v3
    · rw [rowU_ne (by omega), rowU_ne (by omega), rowU_in (by omega) hk, n4 _ _ (by omega), n4 _ _ (by omega), h1.t hk, h2.t hk]
      exact rowv (1 + k) (by omega) (by omega)
    · rw [rowU_ne (by omega), rowU_in (by omega) hk, rowU_ne (by omega), rowU_ne (by omega), n4 _ _ (by omega), n4 _ _ (by omega), h1.m hk, h2.m hk]
      exact rowv (9 + k) (by omega) (by omega)
    · rw [rowU_in (by omega) hk, rowU_ne (by omega), rowU_ne (by omega), rowU_ne (by omega), rowU_ne (by omega), n4 _ _ (by omega), n4 _ _ (by omega), h1.h hk, h2.h hk]
      exact rowv (13 + k) (by omega) (by omega)
    · rw [rowU_ne h3, rowU_ne h2, rowU_ne h1, n4 i k h0]
  rw [f_X1_learn, if_pos k0, a0]
  by_cases h0 : c 0 = 0
  · rw [if_pos ((nI_z (by omega)).mpr h0), if_pos l0, Option.bind_some]
    exact tail (mup I a 0 (I x 0)) (fun i k h => mup_ne _ _ h) (by
      rw [mup_eq, b0]
      unfold lrn
      simp [h0])
  · rw [if_neg (fun z => h0 ((nI_z (by omega)).mp z)), if_pos l0]
    exact tail I (fun _ _ _ => rfl) (by
      rw [a0]
      unfold lrn
      simp [h0])
