theorem x_leads {R : mR} {L L' : Nat} (hR : XR R L L') {ld nm : Nat → Nat} {nl nf b : Nat} (hBI : BI ld nm nl nf) (hb : b < 12) (I : mI) (J : mJ) (hH : XH I nl nf) (hB : XB I ld nm) : f_X0_leads kX 63 (nI b) I J R = some (decide (b < nf ∧ ld b = b)) := by
  rw [f_X0_leads, if_neg (nI_pos (by omega)), if_pos q63]
  have := (hBI b hb).1
  by_cases h : b < nf
  · rw [x_leader_yes hR hH hB h, Option.bind_some]
    by_cases e : ld b = b
    · rw [if_pos (by rw [e]), decide_eq_true ⟨h, e⟩]
    · rw [if_neg (fun z => e ((nI_eq (by omega) (by omega)).mp z)), decide_eq_false (fun z => e z.2)]
  · rw [x_leader_no hR hH (Or.inr (nI_le (by omega) (by omega))), Option.bind_some, if_neg (fun z => nI_nm1 (by omega) z.symm), decide_eq_false (fun z => h z.1)]
theorem sameX.seen {I I' : mI} {a : Nat} (ha : a = 170 ∨ a = 175) (h : ∀ i k, i ≠ a → i ≠ a + 1 → i ≠ a + 2 → i ≠ a + 3 → I' i k = I i k) : sameX I I' := fun i k hi => h i k (by omega) (by omega) (by omega) (by omega)
theorem x_pu_L2 {R : mR} {L L' : Nat} (hR : XR R L L') {C : Nat → Nat → Nat} {ld nm lw : Nat → Nat} {nl nf : Nat} (hCI : CI C nl nf) (hBI : BI ld nm nl nf) (I : mI) (J : mJ) (hH : XH I nl nf) (hC : XC I C) (hB : XB I ld nm) (hl : XL I L lw) :
    ∀ (N b : Nat) (I' : mI), b ≤ 12 → 12 - b < N → sameX I I' → (∀ b' m, b' < b → m < 12 → I' (133 + b') m = nI (PP C ld nm lw nl nf b' m)) → ∃ I'', f_X8_pairUp_L2 kX 0 J R N (nI b) I' = some I'' ∧ sameX I I'' ∧ ∀ b' m, b' < 12 → m < 12 → I'' (133 + b') m = nI (PP C ld nm lw nl nf b' m) := by
  obtain ⟨r0, r1, r6, -, -, -, r5, -, -⟩ := hR.b
  have hLb := hR.L
  intro N
  induction N with
  | zero => intro b I' h1 h2; omega
  | succ N ih =>
    intro b I' h1 h2 h3 h4
    rw [f_X8_pairUp_L2]
    by_cases hb : b = 12
    · subst hb
      exact ⟨I', by rw [if_pos ge12'], h3, h4⟩
    · have hb : b < 12 := by omega
      have bn := (hBI b hb).2.2.2.1
      have hnl := hH.2.2.1
      -- a row, then the next
      have go : ∀ (g : Bool) (I2 : mI), sameX I I2 → (∀ b' m, b' < b → m < 12 → I2 (133 + b') m = nI (PP C ld nm lw nl nf b' m)) → (g = true → b < nf ∧ ld b = b ∧ nm b = 0 ∧ bodyv I2 170 (bC C ld b nf)) → (g = false → ¬ (b < nf ∧ ld b = b ∧ nm b = 0)) → ∃ I'', ((f_X8_pairUp_L56 kX 0 (nI b) g J R 8192 (0 : Int32) I2).bind fun z97 => f_X8_pairUp_L2 kX 0 J R N (nI b + (1 : Int32)) z97) = some I'' ∧ sameX I I'' ∧ ∀ b' m, b' < 12 → m < 12 → I'' (133 + b') m = nI (PP C ld nm lw nl nf b' m) := by
        intro g I2 k1 k2 k3 k4
        have L := x_pu_L56 hR hCI hBI hb g I2 J (hH.same k1) (hC.same k1) (hB.same k1) (hl.same hLb.1 k1) k3 k4 8192 0 (by decide) (by decide)
        rw [rowU_0] at L
        rw [show f_X8_pairUp_L56 kX 0 (nI b) g J R 8192 0 I2 = _ from L, Option.bind_some, nI_s1]
        refine ih (b + 1) _ (by omega) (by omega) (fun a k h => by rw [rowU_ne (by omega)]; exact k1 a k h) (fun b' m e1 e2 => ?_)
        by_cases e : b' = b
        · subst e; rw [rowU_in (by omega) e2]
        · rw [rowU_ne (by omega)]; exact k2 b' m (by omega) e2
      rw [if_neg (ge12 hb), if_pos q0, r1, Option.bind_some, if_pos q63, x_leads hR hBI hb I' J (hH.same h3) (hB.same h3), Option.bind_some]
      by_cases hld : b < nf ∧ ld b = b
      · rw [decide_eq_true hld, if_neg (by decide), r5, Option.bind_some, if_pos (mx b q127 hb (by decide)), nI_c (show b < 2 ^ 31 by omega), (hB.same h3 b hb).2]
        by_cases hn : nm b = 0
        · rw [if_pos ((nmI_iff (by omega)).mpr hn), r6, Option.bind_some]
          obtain ⟨I2, o1, o2, o3⟩ := x_gather hR hCI hBI (Or.inl rfl) hb I' J (hH.same h3) (hC.same h3) (hB.same h3)
          rw [o1, Option.bind_some]
          exact go true I2 (h3.trans (sameX.seen (Or.inl rfl) o3)) (fun b' m e1 e2 => by rw [o3 _ _ (by omega) (by omega) (by omega) (by omega)]; exact h4 b' m e1 e2) (fun _ => ⟨hld.1, hld.2, hn, o2⟩) (fun h => by cases h)
        · rw [if_neg (fun z => hn ((nmI_iff (by omega)).mp z))]
          exact go false I' h3 h4 (fun h => by cases h) (fun _ z => hn z.2.2)
      · rw [decide_eq_false hld, if_pos mb_f]
        exact go false I' h3 h4 (fun h => by cases h) (fun _ z => hld ⟨z.1, z.2.1⟩)
theorem x_pu_L157 {R : mR} {L L' : Nat} (hR : XR R L L') {ld nm μ : Nat → Nat} {nl nf : Nat} (hBI : BI ld nm nl nf) (hn : nl ≤ 12) (I : mI) (J : mJ) (hB : XB I ld nm) (hμ : ∀ b, b < 12 → I 145 b = nmI (μ b)) : ∀ (N b : Nat), b ≤ 12 → 12 - b < N → f_X8_pairUp_L157 kX 0 J R N (nI b) (rowU I 145 0 b (fun k => nmI (if nm k = 0 then μ k else nm k))) = some (rowU I 145 0 12 (fun k => nmI (if nm k = 0 then μ k else nm k))) := by
  obtain ⟨r0, r1, r6, -, -, -, r5, -, -⟩ := hR.b
  have p3 := hR.p3
  obtain ⟨-, pr1, -, -, -, -, -, -, -⟩ := hR.p
  intro N
  induction N with
  | zero => intro b h1 h2; omega
  | succ N ih =>
    intro b h1 h2
    rw [f_X8_pairUp_L157]
    by_cases hb : b = 12
    · subst hb
      rw [if_pos ge12']
    · have hb : b < 12 := by omega
      have bn := (hBI b hb).2.2.2.1
      have ih' := ih (b + 1) (by omega) (by omega)
      rw [if_neg (ge12 hb), if_pos q0, r1, Option.bind_some, if_pos q63, r5, Option.bind_some, if_pos (mx b q127 hb (by decide)), nI_c (show b < 2 ^ 31 by omega), rowU_ne (by decide), (hB b hb).2, nI_s1]
      by_cases hz : nm b = 0
      · rw [if_pos ((nmI_iff (by omega)).mpr hz), rowU_k (Nat.zero_le b) (by rw [if_pos hz, hμ b hb])]
        exact ih'
      · rw [if_neg (fun z => hz ((nmI_iff (by omega)).mp z)), p3, Option.bind_some, if_pos k131, pr1, Option.bind_some, if_pos (mx b k145 hb (by decide)), Option.bind_some, rowU_s (Nat.zero_le b) (by rw [if_neg hz])]
        exact ih'
/-- what the class's settle finds for points P -/
def muOk (P : Nat → Nat → Nat) (μ : Nat → Nat) : Prop := (∀ b, b < 12 → μ b ≤ 12 ∧ (μ b ≠ 0 → 0 < P b (μ b - 1))) ∧ (∀ b b', b < 12 → b' < 12 → μ b ≠ 0 → μ b = μ b' → b = b') ∧ ∀ τ : Nat → Nat, (∀ b, b < 12 → τ b ≤ 12) → (∀ b b', b < 12 → b' < 12 → τ b ≠ 0 → τ b = τ b' → b = b') → fb_sm (fun b => if τ b = 0 then 0 else wN P b (τ b)) 12 ≤ fb_sm (fun b => if μ b = 0 then 0 else wN P b (μ b)) 12
theorem x_pairUp {R : mR} {L L' : Nat} (hR : XR R L L') {C : Nat → Nat → Nat} {ld nm lw : Nat → Nat} {nl nf : Nat} (hCI : CI C nl nf) (hBI : BI ld nm nl nf) (hLI : LI lw) (I : mI) (J : mJ) (hH : XH I nl nf) (hC : XC I C) (hB : XB I ld nm) (hl : XL I L lw) :
    ∃ (I' : mI) (J' : mJ) (μ : Nat → Nat), f_X8_pairUp kX 0 I J R = some (I', J') ∧ sameX I I' ∧ muOk (PP C ld nm lw nl nf) μ ∧ (∀ b, b < 12 → I' 145 b = nmI (if nm b = 0 then μ b else nm b)) ∧ I' 131 2 = nI (fb_sm (fun b => if μ b = 0 then 0 else PP C ld nm lw nl nf b (μ b - 1)) 12) ∧ ∀ b m, b < 12 → m < 12 → I' (133 + b) m = nI (PP C ld nm lw nl nf b m) := by
  obtain ⟨I1, o1, o2, o3⟩ := x_pu_L2 hR hCI hBI I J hH hC hB hl 8192 0 I (by decide) (by decide) sameX.rfl (fun b' m e => by omega)
  obtain ⟨I2, J2, μ, q1, q2, q3, q4, q5, q6⟩ := h_settle hR (PP C ld nm lw nl nf) I1 J (fun b m e1 e2 => ⟨o3 b m e1 e2, PP_le hCI hLI hH.2.2.2⟩)
  have s2 : sameX I I2 := o2.trans (fun a k h => q6 a k (by omega) (by omega) (by omega) (by omega) (by omega))
  have L := x_pu_L157 hR hBI hH.2.2.1 I2 J2 (hB.same s2) (fun b hb => (q2 b hb).1) 8192 0 (by decide) (by decide)
  rw [rowU_0] at L
  refine ⟨rowU I2 145 0 12 (fun k => nmI (if nm k = 0 then μ k else nm k)), J2, μ, ?_, s2.trans (fun a k h => rowU_ne (by omega)), ⟨fun b hb => (q2 b hb).2, q3, q5⟩, fun b hb => rowU_in (by omega) hb, by rw [rowU_ne (by decide)]; exact q4, fun b m e1 e2 => by rw [rowU_ne (by omega), q6 _ _ (by omega) (by omega) (by omega) (by omega) (by omega)]; exact o3 b m e1 e2⟩
  rw [f_X8_pairUp, show f_X8_pairUp_L2 kX 0 J R 8192 0 I = _ from o1, Option.bind_some, if_pos q0, hR.p3, Option.bind_some, if_pos k131, q1, Option.bind_some, show f_X8_pairUp_L157 kX 0 J2 R 8192 0 I2 = _ from L, Option.bind_some]
/-- P without one pair -/
def cutP (P : Nat → Nat → Nat) (b m : Nat) : Nat → Nat → Nat := fun b' m' => if b' = b ∧ m' = m then 0 else P b' m'
theorem x_loss {R : mR} {L L' : Nat} (hR : XR R L L') {P : Nat → Nat → Nat} {b m s : Nat} (hb : b < 12) (hm : m < 12) (I : mI) (J : mJ) (hP : ∀ b m, b < 12 → m < 12 → I (133 + b) m = nI (P b m) ∧ P b m ≤ 21000) (h1 : I 145 b = nI m) (h2 : I 131 2 = nI s) :
    ∃ (I' : mI) (J' : mJ) (μ : Nat → Nat), f_X4_lossWithout kX 131 (nI b) I J R = some (nI s - nI (fb_sm (fun b' => if μ b' = 0 then 0 else cutP P b m b' (μ b' - 1)) 12), I', J') ∧ sameX I I' ∧ muOk (cutP P b m) μ := by
  obtain ⟨r0, r1, -, -, -, -, -, -, -⟩ := hR.p
  obtain ⟨I2, J2, μ, q1, q2, q3, q4, q5, q6⟩ := h_settle hR (cutP P b m) (mup I (133 + b) m 0) J (fun b' m' e1 e2 => by
    unfold cutP
    by_cases e : b' = b ∧ m' = m
    · rw [if_pos e, e.1, e.2, mup_eq]
      exact ⟨rfl, by decide⟩
    · rw [if_neg e, mup_ne _ _ (fun z => e ⟨by omega, z.2⟩)]
      exact hP b' m' e1 e2)
  refine ⟨I2, J2, μ, ?_, fun a k h => by rw [q6 a k (by omega) (by omega) (by omega) (by omega) (by omega), mup_ne _ _ (by omega)], ⟨fun b hb => (q2 b hb).2, q3, q5⟩⟩
  rw [f_X4_lossWithout, if_pos k131, r1, Option.bind_some, if_pos (mx b k145 hb (by decide)), nI_c (show b < 2 ^ 31 by omega), h1, if_neg (nI_nm1 (by omega)), r0, Option.bind_some, if_pos (mx b k132 hb (by decide)), hR.pts hb, Option.bind_some, if_pos (mx m (KX_pts b hb) hm (by decide)), Option.bind_some, nI_c (show m < 2 ^ 31 by omega), q1, Option.bind_some]
  dsimp only
  rw [q4, h2]
/-! the reference's choice exists for every points -/
theorem pick_ex (P D : Nat → Nat → Nat) (b S nl : Nat) : ∃ x, x ≤ nl ∧ pick P D b S nl 0 x := by
  by_cases h : ∃ m, m < nl ∧ (dOk P b S m = true ∧ P b m + D (b + 1) (S ||| 2 ^ m) = D b S)
  · obtain ⟨m, m1, m2, m3⟩ := fb_first h
    refine ⟨m + 1, by omega, fun e => by omega, fun _ => ⟨Nat.zero_le _, by omega, ?_, ?_, fun k _ k2 k3 k4 => m3 k (by omega) ⟨k3, k4⟩⟩⟩
    · rw [show m + 1 - 1 = m by omega]; exact m2.1
    · rw [show m + 1 - 1 = m by omega]; exact m2.2
  · exact ⟨0, Nat.zero_le _, fun _ m _ m2 m3 m4 => h ⟨m, m2, m3, m4⟩, fun e => absurd rfl e⟩
theorem g_ex (P D : Nat → Nat → Nat) (nl : Nat) : ∀ n, ∃ g Sg, gOk P n nl D g Sg
  | 0 => ⟨fun _ => 0, fun _ => 0, rfl, fun b h => absurd h (Nat.not_lt_zero b)⟩
  | n + 1 => by
    obtain ⟨g, Sg, hg⟩ := g_ex P D nl n
    obtain ⟨x, x1, x2⟩ := pick_ex P D n (Sg n) nl
    refine ⟨fun i => if i = n then x else g i, fun i => if i = n + 1 then tS (Sg n) x else Sg i, by show (if 0 = n + 1 then tS (Sg n) x else Sg 0) = 0; rw [if_neg (by omega)]; exact hg.1, fun i hi => ?_⟩
    by_cases e : i = n
    · subst e
      simp only [if_true, show i ≠ i + 1 by omega, if_false]
      refine ⟨x1, trivial, fun e m m1 m2 => x2.1 e m (Nat.zero_le m) m1 m2, fun e => ?_⟩
      obtain ⟨-, -, q3, q4, q5⟩ := x2.2 e
      exact ⟨q3, q4, fun m m1 m2 => q5 m (Nat.zero_le m) m1 m2⟩
    · simp only [e, show ¬ i + 1 = n + 1 by omega, show ¬ i = n + 1 by omega, if_false]
      exact hg.2 i (by omega)
theorem mu_sum {P : Nat → Nat → Nat} {nf nl : Nat} (hn : nf ≤ 12) (hl : nl ≤ 12) (hz : ∀ b m, b < 12 → m < 12 → ¬ (b < nf ∧ m < nl) → P b m = 0) {μ : Nat → Nat} (h : muOk P μ) : fb_sm (fun b => if μ b = 0 then 0 else P b (μ b - 1)) 12 = dD P nf nl 0 0 := by
  obtain ⟨g, Sg, hg⟩ := g_ex P (dD P nf nl) nl nf
  exact (pair_same hn hl hz h.1 h.2.1 h.2.2 (dD_tab P nf nl) hg).2
