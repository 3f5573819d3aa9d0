/-! ===== the class's state in plain numbers ===== -/
def vF (nl nf F : Nat) : Prop := (F < 12 ∧ F < nl) ∨ (12 ≤ F ∧ F < 24 ∧ F - 12 < nf)
def sh (x : Nat) : Prop := x = 0 ∨ (1 ≤ x / 10 ∧ x / 10 ≤ 9 ∧ 1 ≤ x % 10)
/-- what holds of the files' contents -/
def CI (C : Nat → Nat → Nat) (nl nf : Nat) : Prop := ∀ F, F < 24 → C F 0 ≤ 2 ∧ (∀ t, 1 ≤ t → t < 9 → C F t ≤ 3) ∧ (∀ t, 9 ≤ t → t < 13 → C F t ≤ 9) ∧ (∀ t, 13 ≤ t → t < 19 → sh (C F t)) ∧ C F 19 ≤ 120 ∧ C F 20 ≤ 120 ∧ C F 21 ≤ 255 ∧ (¬ vF nl nf F → ∀ t, t < 22 → C F t = if t = 20 then 120 else 0)
def BI (ld nm : Nat → Nat) (nl nf : Nat) : Prop := ∀ f, f < 12 → ld f ≤ f ∧ ld (ld f) = ld f ∧ (nf ≤ f → ld f = f ∧ nm f = 0) ∧ nm f ≤ nl ∧ (nm f ≠ 0 → ld f = f)
def XH (I : mI) (nl nf : Nat) : Prop := I 1 1 = nI nl ∧ I 64 1 = nI nf ∧ nl ≤ 12 ∧ nf ≤ 12
def XC (I : mI) (C : Nat → Nat → Nat) : Prop := ∀ F, F < 24 → cardv I (cid F) (C F)
def XB (I : mI) (ld nm : Nat → Nat) : Prop := ∀ f, f < 12 → I 126 f = nI (ld f) ∧ I 127 f = nmI (nm f)
theorem sh_lt {x : Nat} (h : sh x) : x < 100 := by
  rcases h with h | ⟨h1, h2, h3⟩ <;> omega
theorem CI.lt {C : Nat → Nat → Nat} {nl nf F : Nat} (h : CI C nl nf) (hF : F < 24) {t : Nat} (ht : t < 22) : C F t < 256 := by
  obtain ⟨h0, h1, h2, h3, h4, h5, h6, -⟩ := h F hF
  by_cases e0 : t = 0
  · subst e0; omega
  by_cases e1 : t < 9
  · have := h1 t (by omega) e1; omega
  by_cases e2 : t < 13
  · have := h2 t (by omega) e2; omega
  by_cases e3 : t < 19
  · have := sh_lt (h3 t (by omega) e3); omega
  · rcases (show t = 19 ∨ t = 20 ∨ t = 21 by omega) with rfl | rfl | rfl <;> omega
/-- what a body knows from its files below n -/
def bC (C : Nat → Nat → Nat) (ld : Nat → Nat) (b : Nat) : Nat → Nat → Nat
  | 0 => fun t => if t = 20 then 120 else 0
  | n + 1 => if ld n = b then lrn (bC C ld b n) (C (12 + n)) else bC C ld b n
theorem bC_lt {C : Nat → Nat → Nat} {nl nf : Nat} (h : CI C nl nf) {ld : Nat → Nat} {b : Nat} : ∀ {n : Nat}, n ≤ 12 → ∀ t, t < 22 → bC C ld b n t < 256
  | 0, _, t, ht => by
    show (if t = 20 then 120 else 0) < 256
    split <;> omega
  | n + 1, hn, t, ht => by
    have ih : ∀ t, t < 22 → bC C ld b n t < 256 := fun t ht => bC_lt h (by omega) t ht
    have hC : ∀ t, t < 22 → C (12 + n) t < 256 := fun t ht => h.lt (by omega) ht
    simp only [bC]
    split
    · unfold lrn
      split
      · have := ih 19 (by decide); have := hC 19 (by decide); omega
      · split
        · have := ih 20 (by decide); have := hC 20 (by decide); omega
        · split
          · exact Nat.or_lt_two_pow (n := 8) (ih 21 (by decide)) (hC 21 (by decide))
          · split
            · exact hC t ht
            · exact ih t ht
    · exact ih t ht
theorem XR.b {R : mR} {L L' : Nat} (h : XR R L L') : R 0 0 = some 1 ∧ R 0 1 = some 63 ∧ R 0 6 = some 170 ∧ R 0 7 = some 175 ∧ R 63 0 = some 64 ∧ R 63 1 = some 126 ∧ R 63 2 = some 127 ∧ R 64 0 = some 65 ∧ R 1 0 = some 2 :=
  ⟨h.at (by decide) (by decide) rfl, h.at (by decide) (by decide) rfl, h.at (by decide) (by decide) rfl, h.at (by decide) (by decide) rfl, h.at (by decide) (by decide) rfl, h.at (by decide) (by decide) rfl, h.at (by decide) (by decide) rfl, h.at (by decide) (by decide) rfl, h.at (by decide) (by decide) rfl⟩
set_option maxRecDepth 20000 in
theorem rX_cards : ∀ j, j < 12 → rX 2 j = some (cid j) ∧ rX 65 j = some (cid (12 + j)) := by decide +kernel
theorem XR.c0 {R : mR} {L L' j : Nat} (h : XR R L L') (hj : j < 12) : R 2 j = some (cid j) := h.at (by omega) (by omega) (rX_cards j hj).1
theorem XR.c1 {R : mR} {L L' j : Nat} (h : XR R L L') (hj : j < 12) : R 65 j = some (cid (12 + j)) := h.at (by omega) (by omega) (rX_cards j hj).2
theorem q0 : kX 0 = (0, 8) := rfl
theorem q1 : kX 1 = (0, 2) := rfl
theorem q2 : kX 2 = (5, 12) := rfl
theorem q63 : kX 63 = (0, 0) := rfl
theorem q64 : kX 64 = (0, 2) := rfl
theorem q65 : kX 65 = (5, 12) := rfl
theorem q126 : kX 126 = (1, 12) := rfl
theorem q127 : kX 127 = (1, 12) := rfl
theorem x_gather {R : mR} {L L' : Nat} (hR : XR R L L') {C : Nat → Nat → Nat} {ld nm : Nat → Nat} {nl nf : Nat} (hCI : CI C nl nf) (hBI : BI ld nm nl nf) {a b : Nat} (ha : a = 170 ∨ a = 175) (hb : b < 12) (I : mI) (J : mJ) (hH : XH I nl nf) (hC : XC I C) (hB : XB I ld nm) :
    ∃ I', f_X0_gather kX 63 (nI b) a I J R = some I' ∧ bodyv I' a (bC C ld b nf) ∧ ∀ i k, i ≠ a → i ≠ a + 1 → i ≠ a + 2 → i ≠ a + 3 → I' i k = I i k := by
  obtain ⟨-, -, -, -, r4, r5, -, r7, -⟩ := hR.b
  have hSa : isC R a := by
    rcases ha with rfl | rfl
    · exact hR.seen.1
    · exact hR.seen.2
  obtain ⟨h1, h2, h3, h4⟩ := hH
  have Lp : ∀ (N j : Nat) (I' : mI), j ≤ nf → nf - j < N → bodyv I' a (bC C ld b j) → (∀ i k, i ≠ a → i ≠ a + 1 → i ≠ a + 2 → i ≠ a + 3 → I' i k = I i k) → ∃ I'', f_X0_gather_L6 kX 63 (nI b) a J R N (nI j) I' = some I'' ∧ bodyv I'' a (bC C ld b nf) ∧ ∀ i k, i ≠ a → i ≠ a + 1 → i ≠ a + 2 → i ≠ a + 3 → I'' i k = I i k := by
    intro N
    induction N with
    | zero => intro j I' e1 e2; omega
    | succ N ih =>
      intro j I' e1 e2 e3 e4
      rw [f_X0_gather_L6, if_pos q63, r4, Option.bind_some, if_pos q64, e4 64 1 (by omega) (by omega) (by omega) (by omega), h2]
      by_cases hj : j = nf
      · subst hj
        exact ⟨I', by rw [if_pos (nI_le (Nat.le_refl _) (by omega))], e3, e4⟩
      · have hj12 : j < 12 := by omega
        have hld := (hBI j hj12).1
        rw [if_neg (nI_ge (by omega) (by omega)), r5, Option.bind_some, if_pos (mx j q126 hj12 (by decide)), nI_c (by omega), e4 126 j (by omega) (by omega) (by omega) (by omega), (hB j hj12).1, nI_s1]
        by_cases hl : ld j = b
        · rw [hl, if_pos rfl, r7, Option.bind_some, if_pos (mx j q65 hj12 (by decide)), hR.c1 hj12, Option.bind_some, if_pos hSa.1]
          have rg := cid_rng (show 12 + j < 24 by omega)
          obtain ⟨I2, o1, o2, o3⟩ := x_learn (c := bC C ld b j) (d := C (12 + j)) hSa (hR.card (show 12 + j < 24 by omega)) (by omega) (fun t ht => by have := bC_lt hCI (ld := ld) (b := b) (show j ≤ 12 by omega) t ht; omega) (fun t ht => by have := hCI.lt (show 12 + j < 24 by omega) ht; omega) I' J e3 (fun t t1 t2 => by
            have := so_le t t1
            rw [e4 _ _ (by omega) (by omega) (by omega) (by omega)]
            exact hC (12 + j) (by omega) t t1)
          rw [o1, Option.bind_some]
          refine ih (j + 1) I2 (by omega) (by omega) ?_ (fun i k k0 k1 k2 k3 => by rw [o3 i k k0 k1 k2 k3]; exact e4 i k k0 k1 k2 k3)
          simp only [bC, hl, if_true]
          exact o2
        · rw [if_neg (fun z => hl ((nI_eq (by omega) (by omega)).mp z))]
          refine ih (j + 1) I' (by omega) (by omega) ?_ e4
          simp only [bC, hl, if_false]
          exact e3
  obtain ⟨I1, o1, o2, o3⟩ := x_forget hSa I J
  obtain ⟨I2, p1, p2, p3⟩ := Lp 8192 0 I1 (by omega) (by omega) o2 o3
  refine ⟨I2, ?_, p2, p3⟩
  rw [f_X0_gather, if_pos hSa.1, o1, Option.bind_some, show f_X0_gather_L6 kX 63 (nI b) a J R 8192 0 I1 = _ from p1, Option.bind_some]
theorem x_leader_no {R : mR} {L L' : Nat} (hR : XR R L L') {nl nf : Nat} {I : mI} {J : mJ} (hH : XH I nl nf) {x : Int32} (hx : x < 0 ∨ nI nf ≤ x) : f_X0_leaderOf kX 63 x I J R = some (-1) := by
  obtain ⟨-, -, -, -, r4, r5, -, -, -⟩ := hR.b
  rw [f_X0_leaderOf]
  by_cases h : x < 0
  · rw [if_pos h]
  · rw [if_neg h, if_pos q63, r4, Option.bind_some, if_pos q64, hH.2.1, if_pos (hx.resolve_left h)]
theorem x_leader_yes {R : mR} {L L' : Nat} (hR : XR R L L') {nl nf : Nat} {ld nm : Nat → Nat} {I : mI} {J : mJ} (hH : XH I nl nf) (hB : XB I ld nm) {j : Nat} (hj : j < nf) : f_X0_leaderOf kX 63 (nI j) I J R = some (nI (ld j)) := by
  obtain ⟨-, -, -, -, r4, r5, -, -, -⟩ := hR.b
  have := hH.2.2.2
  rw [f_X0_leaderOf, if_neg (nI_pos (by omega)), if_pos q63, r4, Option.bind_some, if_pos q64, hH.2.1, if_neg (nI_ge hj (by omega)), r5, Option.bind_some, if_pos (mx j q126 (by omega) (by decide)), nI_c (by omega), (hB j (by omega)).1]
theorem x_find_no {R : mR} {L L' : Nat} (hR : XR R L L') {nl nf : Nat} {I : mI} {J : mJ} (hH : XH I nl nf) {x : Int32} (hx : x < 0 ∨ nI nl ≤ x) : f_X2_find kX 1 x I J R = some none := by
  rw [f_X2_find]
  by_cases h : x < 0
  · rw [if_pos h]
  · rw [if_neg h, if_pos q1, hH.1, if_pos (hx.resolve_left h)]
theorem x_find_yes {R : mR} {L L' : Nat} (hR : XR R L L') {nl nf : Nat} {I : mI} {J : mJ} (hH : XH I nl nf) {j : Nat} (hj : j < nl) : f_X2_find kX 1 (nI j) I J R = some (some (cid j)) := by
  obtain ⟨-, -, -, -, -, -, -, -, r8⟩ := hR.b
  have := hH.2.2.1
  rw [f_X2_find, if_neg (nI_pos (by omega)), if_pos q1, hH.1, if_neg (nI_ge hj (by omega)), r8, Option.bind_some, if_pos (mx j q2 (by omega) (by decide)), nI_c (by omega), hR.c0 (by omega), Option.bind_some]
theorem x_find1_no {R : mR} {L L' : Nat} (hR : XR R L L') {nl nf : Nat} {I : mI} {J : mJ} (hH : XH I nl nf) {x : Int32} (hx : x < 0 ∨ nI nf ≤ x) : f_X2_find kX 64 x I J R = some none := by
  rw [f_X2_find]
  by_cases h : x < 0
  · rw [if_pos h]
  · rw [if_neg h, if_pos q64, hH.2.1, if_pos (hx.resolve_left h)]
theorem x_find1_yes {R : mR} {L L' : Nat} (hR : XR R L L') {nl nf : Nat} {I : mI} {J : mJ} (hH : XH I nl nf) {j : Nat} (hj : j < nf) : f_X2_find kX 64 (nI j) I J R = some (some (cid (12 + j))) := by
  obtain ⟨-, -, -, -, -, -, -, r7, -⟩ := hR.b
  have := hH.2.2.2
  rw [f_X2_find, if_neg (nI_pos (by omega)), if_pos q64, hH.2.1, if_neg (nI_ge hj (by omega)), r7, Option.bind_some, if_pos (mx j q65 (by omega) (by decide)), nI_c (by omega), hR.c1 (by omega), Option.bind_some]
/-! ===== what shuts a body out ===== -/
def sufA (p : Nat → Bool) : Nat → Nat → Bool
  | 0, _ => false
  | d + 1, i => p i || sufA p d (i + 1)
theorem sufA_shift (p : Nat → Bool) (c : Nat) : ∀ d i, sufA (fun k => p (c + k)) d i = sufA p d (c + i)
  | 0, _ => rfl
  | d + 1, i => by
    simp only [sufA]
    rw [sufA_shift p c d (i + 1), show c + (i + 1) = c + i + 1 by omega]
theorem sufA_congr {p q : Nat → Bool} : ∀ {d i : Nat}, (∀ k, i ≤ k → k < i + d → p k = q k) → sufA p d i = sufA q d i
  | 0, _, _ => rfl
  | d + 1, i, h => by
    simp only [sufA]
    rw [h i (Nat.le_refl i) (by omega), sufA_congr (d := d) (i := i + 1) (fun k k1 k2 => h k (by omega) (by omega))]
def unl (x y : Nat) : Bool := decide (x ≠ 0) && (decide (y ≠ 0) && decide (x ≠ y))
def shn (x y : Nat) : Bool := decide (y / 10 ≠ x / 10) && (decide (y % 10 ≠ x / 10) && (decide (y / 10 ≠ x % 10) && decide (y % 10 ≠ x % 10)))
def bcT (c d : Nat → Nat) (k : Nat) : Bool := decide (c (1 + k) ≠ 0) && decide (c (1 + k) < d (1 + k))
def bcS (c d : Nat → Nat) (k : Nat) : Bool := unl (c (13 + k)) (d (13 + k))
def bcP (c d : Nat → Nat) (k : Nat) : Bool := decide (c (13 + k) ≠ 0) && (decide (d (16 + k) ≠ 0) && shn (c (13 + k)) (d (16 + k)))
def barC (c d : Nat → Nat) : Nat := if unl (c 0) (d 0) = true then 1 else if min (c 20) (d 20) < max (c 19) (d 19) then 2 else if sufA (bcT c d) 8 0 = true then 3 else if sufA (bcS c d) 3 0 = true then 4 else if sufA (bcP c d) 3 0 = true then 5 else 0
theorem x_sexUnlike {R : mR} {a x : Nat} (hC : isC R a) (hX : isC R x) {c d : Nat → Nat} (hc : c 0 < 1000) (hd : d 0 < 1000) {I : mI} {J : mJ} (h1 : bodyv I a c) (h2 : bodyv I x d) : f_X1_sexUnlike kX a x I J R = some (unl (c 0) (d 0)) := by
  rw [f_X1_sexUnlike, if_pos hC.1, h1.s.1, h2.s.1]
  unfold unl
  by_cases e1 : c 0 = 0
  · rw [if_pos ((nI_z (by omega)).mpr e1)]; simp [e1]
  · rw [if_neg (fun z => e1 ((nI_z (by omega)).mp z)), if_pos hX.1]
    by_cases e2 : d 0 = 0
    · rw [if_pos ((nI_z (by omega)).mpr e2)]; simp [e2]
    · rw [if_neg (fun z => e2 ((nI_z (by omega)).mp z))]
      by_cases e3 : c 0 = d 0
      · rw [if_pos (by rw [e3])]; simp [e3]
      · rw [if_neg (fun z => e3 ((nI_eq (by omega) (by omega)).mp z))]; simp [e1, e2, e3]
theorem x_ageMeets {R : mR} {a x : Nat} (hC : isC R a) (hX : isC R x) {c d : Nat → Nat} (hc : ∀ t, t < 22 → c t < 1000) (hd : ∀ t, t < 22 → d t < 1000) {I : mI} {J : mJ} (h1 : bodyv I a c) (h2 : bodyv I x d) : f_X1_ageMeets kX a x I J R = some (!decide (min (c 20) (d 20) < max (c 19) (d 19))) := by
  have := hc 19 (by decide)
  have := hc 20 (by decide)
  have := hd 19 (by decide)
  have := hd 20 (by decide)
  rw [f_X1_ageMeets, if_pos hC.1, if_pos hX.1, h1.s.2.1, h1.s.2.2.1, h2.s.2.1, h2.s.2.2.1, imin_nI (by omega) (by omega), imax_nI (by omega) (by omega)]
  by_cases h : min (c 20) (d 20) < max (c 19) (d 19)
  · rw [if_pos (nI_lt h (by omega))]; simp [h]
  · rw [if_neg (nI_nlt (by omega) (by omega))]; simp [h]
theorem x_tooth {R : mR} {a x : Nat} (hC : isC R a) (hX : isC R x) {c d : Nat → Nat} (hc : ∀ t, t < 22 → c t < 1000) (hd : ∀ t, t < 22 → d t < 1000) {I : mI} {J : mJ} (h1 : bodyv I a c) (h2 : bodyv I x d) : f_X1_toothCameBack kX a x I J R = some (sufA (bcT c d) 8 0) := by
  obtain ⟨k0, k1, -, -, -, r4, -, -, -⟩ := hC
  obtain ⟨l0, l1, -, -, -, s4, -, -, -⟩ := hX
  have Lp : ∀ (N e i : Nat), i + e = 8 → e < N → f_X1_toothCameBack_L2 kX a x I J R N (nI i) = some (cond (sufA (bcT c d) e i) (Sum.inl true) (Sum.inr ())) := by
    intro N
    induction N with
    | zero => intro e i e1 e2; omega
    | succ N ih =>
      intro e i e1 e2
      rw [f_X1_toothCameBack_L2]
      by_cases hi : e = 0
      · subst hi
        rw [if_pos (show (8 : Int32) ≤ nI i from nI_le (show 8 ≤ i by omega) (by omega))]
        rfl
      · have hi8 : i < 8 := by omega
        obtain ⟨e', rfl⟩ : ∃ e', e = e' + 1 := ⟨e - 1, by omega⟩
        have ih' := ih e' (i + 1) (by omega) (by omega)
        have b1 := hc (1 + i) (by omega)
        have b2 := hd (1 + i) (by omega)
        rw [if_neg (show ¬ (8 : Int32) ≤ nI i from nI_ge hi8 (by decide)), if_pos k0, r4, Option.bind_some, if_pos (mx i k1 hi8 (by decide)), nI_c (by omega), h1.t hi8, nI_s1]
        simp only [sufA]
        by_cases z : c (1 + i) = 0
        · rw [if_pos ((nI_z (by omega)).mpr z), ih', show bcT c d i = false by simp [bcT, z], Bool.false_or]
        · rw [if_neg (fun q => z ((nI_z (by omega)).mp q)), if_pos l0, s4, Option.bind_some, if_pos (mx i l1 hi8 (by decide)), h2.t hi8]
          by_cases y : c (1 + i) < d (1 + i)
          · rw [if_neg (nI_ge y (by omega)), show bcT c d i = true by simp [bcT, z, y], Bool.true_or, cond_true]
          · rw [if_pos (nI_le (by omega) (by omega)), ih', show bcT c d i = false by simp [bcT, y], Bool.false_or]
  rw [f_X1_toothCameBack, show f_X1_toothCameBack_L2 kX a x I J R 8192 0 = _ from Lp 8192 8 0 rfl (by decide), Option.bind_some]
  cases sufA (bcT c d) 8 0 <;> rfl
theorem x_sheet {R : mR} {a x : Nat} (hC : isC R a) (hX : isC R x) {c d : Nat → Nat} (hc : ∀ t, t < 22 → c t < 1000) (hd : ∀ t, t < 22 → d t < 1000) {I : mI} {J : mJ} (h1 : bodyv I a c) (h2 : bodyv I x d) : f_X1_sheetUnlike kX a x I J R = some (sufA (bcS c d) 3 0) := by
  obtain ⟨k0, -, -, k3, -, -, -, r6, -⟩ := hC
  obtain ⟨l0, -, -, l3, -, -, -, s6, -⟩ := hX
  have Lp : ∀ (N e i : Nat), i + e = 3 → e < N → f_X1_sheetUnlike_L2 kX a x I J R N (nI i) = some (cond (sufA (bcS c d) e i) (Sum.inl true) (Sum.inr ())) := by
    intro N
    induction N with
    | zero => intro e i e1 e2; omega
    | succ N ih =>
      intro e i e1 e2
      rw [f_X1_sheetUnlike_L2]
      by_cases hi : e = 0
      · subst hi
        rw [if_pos (show (3 : Int32) ≤ nI i from nI_le (show 3 ≤ i by omega) (by omega))]
        rfl
      · have hi8 : i < 3 := by omega
        obtain ⟨e', rfl⟩ : ∃ e', e = e' + 1 := ⟨e - 1, by omega⟩
        have ih' := ih e' (i + 1) (by omega) (by omega)
        have b1 := hc (13 + i) (by omega)
        have b2 := hd (13 + i) (by omega)
        rw [if_neg (show ¬ (3 : Int32) ≤ nI i from nI_ge hi8 (by decide)), if_pos k0, r6, Option.bind_some, if_pos (mx i k3 hi8 (by decide)), if_pos l0, s6, Option.bind_some, if_pos (mx i l3 hi8 (by decide)), nI_c (by omega), h1.h hi8, h2.h hi8, nI_s1]
        simp only [sufA]
        by_cases z : c (13 + i) = 0
        · rw [if_pos ((nI_z (by omega)).mpr z), ih', show bcS c d i = false by simp [bcS, unl, z], Bool.false_or]
        · rw [if_neg (fun q => z ((nI_z (by omega)).mp q))]
          by_cases y : d (13 + i) = 0
          · rw [if_pos ((nI_z (by omega)).mpr y), ih', show bcS c d i = false by simp [bcS, unl, y], Bool.false_or]
          · rw [if_neg (fun q => y ((nI_z (by omega)).mp q))]
            by_cases v : c (13 + i) = d (13 + i)
            · rw [if_pos (by rw [v]), ih', show bcS c d i = false by simp [bcS, unl, v], Bool.false_or]
            · rw [if_neg (fun q => v ((nI_eq (by omega) (by omega)).mp q)), show bcS c d i = true by simp [bcS, unl, z, y, v], Bool.true_or, cond_true]
  rw [f_X1_sheetUnlike, show f_X1_sheetUnlike_L2 kX a x I J R 8192 0 = _ from Lp 8192 3 0 rfl (by decide), Option.bind_some]
  cases sufA (bcS c d) 3 0 <;> rfl
theorem d10 {n : Nat} (h : n < 2 ^ 31) : nI n / (10 : Int32) = nI (n / 10) := pk_div h (by decide) (by decide)
theorem m10 {n : Nat} (h : n < 2 ^ 31) : nI n - nI n / (10 : Int32) * (10 : Int32) = nI (n % 10) := pk_rem h (by decide) (by decide)
theorem x_has {y v : Nat} (hy : y < 1000) (hv : v < 1000) {I : mI} {J : mJ} {R : mR} : f_X1_has kX (nI y) (nI v) I J R = some (decide (y / 10 = v) || decide (y % 10 = v)) := by
  rw [f_X1_has, m10 (show y < 2 ^ 31 by omega), d10 (show y < 2 ^ 31 by omega)]
  by_cases h1 : y / 10 = v
  · rw [if_pos (by rw [h1])]; simp [h1]
  · rw [if_neg (fun z => h1 ((nI_eq (by omega) (by omega)).mp z))]
    by_cases h2 : y % 10 = v
    · rw [if_pos (by rw [h2])]; simp [h2]
    · rw [if_neg (fun z => h2 ((nI_eq (by omega) (by omega)).mp z))]; simp [h1, h2]
theorem x_strange {R : mR} {a x : Nat} (hC : isC R a) (hX : isC R x) {c d : Nat → Nat} (hc : ∀ t, t < 22 → c t < 1000) (hd : ∀ t, t < 22 → d t < 1000) {I : mI} {J : mJ} (h1 : bodyv I a c) (h2 : cardv I x d) : f_X1_strangeToParent kX a x I J R = some (sufA (bcP c d) 3 0) := by
  obtain ⟨k0, -, -, k3, -, -, -, r6, -⟩ := hC
  obtain ⟨l0, -, -, -, l4, -, -, -, s7⟩ := hX
  have Lp : ∀ (N e i : Nat), i + e = 3 → e < N → f_X1_strangeToParent_L2 kX a x I J R N (nI i) = some (cond (sufA (bcP c d) e i) (Sum.inl true) (Sum.inr ())) := by
    intro N
    induction N with
    | zero => intro e i e1 e2; omega
    | succ N ih =>
      intro e i e1 e2
      rw [f_X1_strangeToParent_L2]
      by_cases hi : e = 0
      · subst hi
        rw [if_pos (show (3 : Int32) ≤ nI i from nI_le (show 3 ≤ i by omega) (by omega))]
        rfl
      · have hi8 : i < 3 := by omega
        obtain ⟨e', rfl⟩ : ∃ e', e = e' + 1 := ⟨e - 1, by omega⟩
        have ih' := ih e' (i + 1) (by omega) (by omega)
        have b1 := hc (13 + i) (by omega)
        have b2 := hd (16 + i) (by omega)
        rw [if_neg (show ¬ (3 : Int32) ≤ nI i from nI_ge hi8 (by decide)), if_pos k0, r6, Option.bind_some, if_pos (mx i k3 hi8 (by decide)), if_pos l0, s7, Option.bind_some, if_pos (mx i l4 hi8 (by decide)), nI_c (by omega), h1.h hi8, h2.p hi8, nI_s1]
        simp only [sufA]
        by_cases z : c (13 + i) = 0
        · rw [if_pos ((nI_z (by omega)).mpr z), ih', show bcP c d i = false by simp [bcP, z], Bool.false_or]
        · rw [if_neg (fun q => z ((nI_z (by omega)).mp q))]
          by_cases y : d (16 + i) = 0
          · rw [if_pos ((nI_z (by omega)).mpr y), ih', show bcP c d i = false by simp [bcP, y], Bool.false_or]
          · rw [if_neg (fun q => y ((nI_z (by omega)).mp q)), m10 (show c (13 + i) < 2 ^ 31 by omega), d10 (show c (13 + i) < 2 ^ 31 by omega), x_has b2 (by omega), Option.bind_some]
            by_cases v : (decide (d (16 + i) / 10 = c (13 + i) / 10) || decide (d (16 + i) % 10 = c (13 + i) / 10)) = true
            · rw [v, if_neg (by decide), ih', show bcP c d i = false by
                simp only [Bool.or_eq_true, decide_eq_true_eq] at v
                simp only [bcP, shn]
                rcases v with v | v <;> simp [v], Bool.false_or]
            · rw [show (decide (d (16 + i) / 10 = c (13 + i) / 10) || decide (d (16 + i) % 10 = c (13 + i) / 10)) = false by simpa using v, if_pos mb_f, x_has b2 (by omega), Option.bind_some]
              have v' : ¬ d (16 + i) / 10 = c (13 + i) / 10 ∧ ¬ d (16 + i) % 10 = c (13 + i) / 10 := by simpa using v
              by_cases v2 : (decide (d (16 + i) / 10 = c (13 + i) % 10) || decide (d (16 + i) % 10 = c (13 + i) % 10)) = true
              · rw [v2, if_neg (by decide), ih', show bcP c d i = false by
                  simp only [Bool.or_eq_true, decide_eq_true_eq] at v2
                  simp only [bcP, shn]
                  rcases v2 with v2 | v2 <;> simp [v2], Bool.false_or]
              · have v2' : ¬ d (16 + i) / 10 = c (13 + i) % 10 ∧ ¬ d (16 + i) % 10 = c (13 + i) % 10 := by simpa using v2
                rw [show (decide (d (16 + i) / 10 = c (13 + i) % 10) || decide (d (16 + i) % 10 = c (13 + i) % 10)) = false by simpa using v2, if_pos mb_f, show bcP c d i = true by simp [bcP, shn, z, y, v'.1, v'.2, v2'.1, v2'.2], Bool.true_or, cond_true]
  rw [f_X1_strangeToParent, show f_X1_strangeToParent_L2 kX a x I J R 8192 0 = _ from Lp 8192 3 0 rfl (by decide), Option.bind_some]
  cases sufA (bcP c d) 3 0 <;> rfl
theorem x_barFrom {R : mR} {a x : Nat} (hC : isC R a) (hX : isC R x) {c d : Nat → Nat} (hc : ∀ t, t < 22 → c t < 1000) (hd : ∀ t, t < 22 → d t < 1000) {I : mI} {J : mJ} (h1 : bodyv I a c) (h2 : cardv I x d) : f_X1_barFrom kX a x I J R = some (nI (barC c d)) := by
  rw [f_X1_barFrom, if_pos hC.1, x_sexUnlike hC hX (hc 0 (by decide)) (hd 0 (by decide)) h1 h2.b, Option.bind_some]
  unfold barC
  by_cases e1 : unl (c 0) (d 0) = true
  · rw [e1, if_neg (by decide), if_pos rfl]; rfl
  · have e1 : unl (c 0) (d 0) = false := by simpa using e1
    rw [e1, if_pos mb_f, if_neg (by decide), x_ageMeets hC hX hc hd h1 h2.b, Option.bind_some]
    by_cases e2 : min (c 20) (d 20) < max (c 19) (d 19)
    · rw [if_pos e2, if_pos (by rw [mb_0]; simp [e2])]; rfl
    · rw [if_neg e2, if_neg (by rw [mb_0]; simp [e2]), x_tooth hC hX hc hd h1 h2.b, Option.bind_some]
      by_cases e3 : sufA (bcT c d) 8 0 = true
      · rw [e3, if_neg (by decide), if_pos rfl]; rfl
      · have e3 : sufA (bcT c d) 8 0 = false := by simpa using e3
        rw [e3, if_pos mb_f, if_neg (by decide), x_sheet hC hX hc hd h1 h2.b, Option.bind_some]
        by_cases e4 : sufA (bcS c d) 3 0 = true
        · rw [e4, if_neg (by decide), if_pos rfl]; rfl
        · have e4 : sufA (bcS c d) 3 0 = false := by simpa using e4
          rw [e4, if_pos mb_f, if_neg (by decide), x_strange hC hX hc hd h1 h2, Option.bind_some]
          by_cases e5 : sufA (bcP c d) 3 0 = true
          · rw [e5, if_neg (by decide), if_pos rfl]; rfl
          · have e5 : sufA (bcP c d) 3 0 = false := by simpa using e5
            rw [e5, if_pos mb_f, if_neg (by decide)]; rfl
