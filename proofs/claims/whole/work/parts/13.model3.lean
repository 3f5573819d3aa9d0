/-! ===== the reference's pairing ===== -/
def sameM (I I' : mI) : Prop := ∀ a k, a ≠ 8 → a ≠ 9 → a ≠ 10 → I' a k = I a k
theorem sameM.rfl {I : mI} : sameM I I := fun _ _ _ _ _ => Eq.refl _
theorem sameM.trans {I I' I'' : mI} (h1 : sameM I I') (h2 : sameM I' I'') : sameM I I'' := fun a k x y z => (h2 a k x y z).trans (h1 a k x y z)
theorem MH.same {I I' : mI} {nl nf : Nat} (h : MH I nl nf) (hs : sameM I I') : MH I' nl nf := ⟨by rw [hs 1 0 (by omega) (by omega) (by omega)]; exact h.1, by rw [hs 1 1 (by omega) (by omega) (by omega)]; exact h.2.1, h.2.2⟩
theorem MC.same {I I' : mI} {C : Nat → Nat → Nat} {nl nf : Nat} (h : MC I C nl nf) (hs : sameM I I') : MC I' C nl nf := fun F hF => ⟨fun t ht => by rw [hs _ _ (by omega) (by omega) (by omega)]; exact (h F hF).1 t ht, by rw [hs _ _ (by omega) (by omega) (by omega)]; exact (h F hF).2.1, fun v => by rw [hs _ _ (by omega) (by omega) (by omega)]; exact (h F hF).2.2.1 v, fun v => by rw [hs _ _ (by omega) (by omega) (by omega)]; exact (h F hF).2.2.2 v⟩
theorem MB.same {I I' : mI} {ld nm : Nat → Nat} {nf : Nat} (h : MB I ld nm nf) (hs : sameM I I') : MB I' ld nm nf := fun f hf => ⟨by rw [hs _ _ (by omega) (by omega) (by omega)]; exact (h f hf).1, by rw [hs _ _ (by omega) (by omega) (by omega)]; exact (h f hf).2⟩
theorem ML.same {I I' : mI} {lw : Nat → Nat} (h : ML I lw) (hs : sameM I I') : ML I' lw := fun i hi => by rw [hs _ _ (by omega) (by omega) (by omega)]; exact h i hi
theorem ix11 : mIx kM 1 1 (1 : Int32) := mx 1 km1 (by decide) (by decide)
theorem ix10 : mIx kM 1 1 (0 : Int32) := mx 0 km1 (by decide) (by decide)
theorem m_isNamed {ld nm : Nat → Nat} {nl nf m : Nat} (hBI : BI ld nm nl nf) (hm : m < 12) (I : mI) (J : mJ) (hH : MH I nl nf) (hB : MB I ld nm nf) : f_X9_isNamed kM 0 (nI m) I J rM = some (gvn nm m) := by
  obtain ⟨h1, h2, h3, h4⟩ := hH
  have Lp : ∀ (N e i : Nat) (v : Bool), i + e = nf → e < N → f_X9_isNamed_L4 kM 0 (nI m) I J rM N v (nI i) = some (v || sufA (fun f => decide (nm f = m + 1)) e i) := by
    intro N
    induction N with
    | zero => intro e i v e1 e2; omega
    | succ N ih =>
      intro e i v e1 e2
      rw [f_X9_isNamed_L4, if_pos km0, rq0, Option.bind_some, if_pos ix11, cl1, h2]
      by_cases hi : e = 0
      · subst hi
        rw [if_pos (nI_le (by omega) (by omega)), sufA, Bool.or_false]
      · obtain ⟨e', rfl⟩ : ∃ e', e = e' + 1 := ⟨e - 1, by omega⟩
        have bn := (hBI i (by omega)).2.2.2.1
        rw [if_neg (nI_ge (show i < nf by omega) (by omega)), nI_s1]
        simp only [sufA]
        cases v with
        | true => rw [if_neg (by decide), ih e' (i + 1) true (by omega) (by omega), Bool.true_or, Bool.true_or]
        | false =>
          rw [if_pos mb_f, rq6, Option.bind_some, if_pos (mx i km7 (by omega) (by decide)), nI_c (show i < 2 ^ 31 by omega), (hB i (by omega)).2, Bool.false_or]
          by_cases z : nm i = m + 1
          · rw [if_pos ((nmI_nI (by omega) (by omega)).mpr z), ih e' (i + 1) true (by omega) (by omega), decide_eq_true z, Bool.true_or]
          · rw [if_neg (fun q => z ((nmI_nI (by omega) (by omega)).mp q)), ih e' (i + 1) false (by omega) (by omega), decide_eq_false z, Bool.false_or]
  rw [f_X9_isNamed, show f_X9_isNamed_L4 kM 0 (nI m) I J rM 8192 false 0 = _ from Lp 8192 nf 0 false (by omega) (by omega), Option.bind_some, Bool.false_or]
  congr 1
  unfold gvn
  rw [Bool.eq_iff_iff, sufA_iff, sufA_iff]
  constructor
  · rintro ⟨k, k1, k2, k3⟩
    exact ⟨k, k1, by omega, k3⟩
  · rintro ⟨k, k1, k2, k3⟩
    refine ⟨k, k1, ?_, k3⟩
    have k3 : nm k = m + 1 := by simpa using k3
    have := (hBI k (by omega)).2.2.1
    omega
theorem m_me_L14 {C : Nat → Nat → Nat} {ld nm lw : Nat → Nat} {nl nf b : Nat} (hCI : CI C nl nf) (hBI : BI ld nm nl nf) (hb : b < nf) (I : mI) (J : mJ) (hH : MH I nl nf) (hC : MC I C nl nf) (hB : MB I ld nm nf) (hl : ML I lw) : ∀ (N m : Nat), m ≤ nl → nl - m < N → f_X9_measures_L14 kM 0 (nI b) J rM N (nI m) (rowU I 8 (12 * b) (12 * b + m) (fun k => nI (PP C ld nm lw nl nf b (k - 12 * b)))) = some (rowU I 8 (12 * b) (12 * b + nl) (fun k => nI (PP C ld nm lw nl nf b (k - 12 * b)))) := by
  have hn := hH.2.2
  have b1 := (hBI b (by omega)).1
  have b2 := (hBI b (by omega)).2.2.2.1
  intro N
  induction N with
  | zero => intro m h1 h2; omega
  | succ N ih =>
    intro m h1 h2
    have hs : sameM I (rowU I 8 (12 * b) (12 * b + m) (fun k => nI (PP C ld nm lw nl nf b (k - 12 * b)))) := fun a k x _ _ => rowU_ne x
    rw [f_X9_measures_L14, if_pos km0, rq0, Option.bind_some, if_pos ix10, sb_cl0, (hH.same hs).1]
    by_cases hm : m = nl
    · subst hm
      rw [if_pos (nI_le (Nat.le_refl _) (by omega))]
    · have hm : m < nl := by omega
      have ih' := ih (m + 1) (by omega) (by omega)
      have ix : (12 : Int32) * nI b + nI m = nI (12 * b + m) := by rw [show (12 : Int32) = nI 12 from rfl, pk_mul, nI_add]
      have wr : ∀ v, v = nI (PP C ld nm lw nl nf b m) → mup (rowU I 8 (12 * b) (12 * b + m) (fun k => nI (PP C ld nm lw nl nf b (k - 12 * b)))) 8 (12 * b + m) v = rowU I 8 (12 * b) (12 * b + (m + 1)) (fun k => nI (PP C ld nm lw nl nf b (k - 12 * b))) := fun v hv => rowU_s (by omega) (by rw [hv, show 12 * b + m - 12 * b = m by omega])
      rw [if_neg (nI_ge hm (by omega)), rq5, Option.bind_some, if_pos (mx b km6 (by omega) (by decide)), nI_c (show b < 2 ^ 31 by omega), (hB.same hs b hb).1, ix, nI_c (show 12 * b + m < 2 ^ 31 by omega), nI_s1, rq7, rq6]
      by_cases z1 : ld b = b
      · rw [if_pos (by rw [z1]), Option.bind_some, if_pos (mx b km7 (by omega) (by decide)), (hB.same hs b hb).2]
        by_cases z2 : nm b = 0
        · rw [if_pos ((nmI_iff (by omega)).mpr z2), m_isNamed hBI (by omega) _ J (hH.same hs) (hB.same hs), Option.bind_some]
          by_cases z3 : gvn nm m = true
          · rw [z3, if_neg (by decide), Option.bind_some, if_pos (mx _ km8 (show 12 * b + m < 144 by omega) (by decide)), Option.bind_some, wr 0 (by unfold PP; rw [if_neg (fun z => by rw [z3] at z; exact absurd z.2.2.2.2 (by decide))]; rfl)]
            exact ih'
          · have z3 : gvn nm m = false := by simpa using z3
            rw [z3, if_pos mb_f, Option.bind_some, m_pointsOf hCI hBI hb hm _ J (hH.same hs) (hC.same hs) (hB.same hs) (hl.same hs), Option.bind_some, if_pos (mx _ km8 (show 12 * b + m < 144 by omega) (by decide)), Option.bind_some, imax_pN, wr _ (by rw [show PP C ld nm lw nl nf b m = pN (ptV C ld lw nf b m) by (unfold PP; rw [if_pos ⟨hb, hm, z1, z2, z3⟩])]; rfl)]
            exact ih'
        · rw [if_neg (fun q => z2 ((nmI_iff (by omega)).mp q)), Option.bind_some, if_pos (mx _ km8 (show 12 * b + m < 144 by omega) (by decide)), Option.bind_some, wr 0 (by unfold PP; rw [if_neg (fun z => z2 z.2.2.2.1)]; rfl)]
          exact ih'
      · rw [if_neg (fun q => z1 ((nI_eq (by omega) (by omega)).mp q)), Option.bind_some, if_pos (mx _ km8 (show 12 * b + m < 144 by omega) (by decide)), Option.bind_some, wr 0 (by unfold PP; rw [if_neg (fun z => z1 z.2.2.1)]; rfl)]
        exact ih'
theorem m_measures {C : Nat → Nat → Nat} {ld nm lw : Nat → Nat} {nl nf : Nat} (hCI : CI C nl nf) (hBI : BI ld nm nl nf) (I : mI) (J : mJ) (hH : MH I nl nf) (hC : MC I C nl nf) (hB : MB I ld nm nf) (hl : ML I lw) : ∃ I', f_X9_measures kM 0 I J rM = some I' ∧ (∀ a k, a ≠ 8 → I' a k = I a k) ∧ ∀ b m, b < nf → m < nl → I' 8 (12 * b + m) = nI (PP C ld nm lw nl nf b m) := by
  have hn := hH.2.2
  have Lp : ∀ (N b : Nat) (I' : mI), b ≤ nf → nf - b < N → (∀ a k, a ≠ 8 → I' a k = I a k) → (∀ b' m, b' < b → m < nl → I' 8 (12 * b' + m) = nI (PP C ld nm lw nl nf b' m)) → ∃ I'', f_X9_measures_L2 kM 0 J rM N (nI b) I' = some I'' ∧ (∀ a k, a ≠ 8 → I'' a k = I a k) ∧ ∀ b m, b < nf → m < nl → I'' 8 (12 * b + m) = nI (PP C ld nm lw nl nf b m) := by
    intro N
    induction N with
    | zero => intro b I' h1 h2; omega
    | succ N ih =>
      intro b I' h1 h2 h3 h4
      have hs : sameM I I' := fun a k x _ _ => h3 a k x
      rw [f_X9_measures_L2, if_pos km0, rq0, Option.bind_some, if_pos ix11, cl1, (hH.same hs).2.1]
      by_cases hb : b = nf
      · subst hb
        exact ⟨I', by rw [if_pos (nI_le (Nat.le_refl _) (by omega))], h3, h4⟩
      · have hb : b < nf := by omega
        have L := m_me_L14 hCI hBI hb I' J (hH.same hs) (hC.same hs) (hB.same hs) (hl.same hs) 8192 0 (by omega) (by omega)
        rw [show 12 * b + 0 = 12 * b by omega, rowU_0] at L
        rw [if_neg (nI_ge hb (by omega)), show f_X9_measures_L14 kM 0 (nI b) J rM 8192 0 I' = _ from L, Option.bind_some, nI_s1]
        refine ih (b + 1) _ (by omega) (by omega) (fun a k h => by rw [rowU_ne h]; exact h3 a k h) (fun b' m e1 e2 => ?_)
        by_cases e : b' = b
        · subst e; rw [rowU_in (by omega) (by omega), show 12 * b' + m - 12 * b' = m by omega]
        · rw [rowU_out (by omega)]; exact h4 b' m (by omega) e2
  obtain ⟨I', o1, o2, o3⟩ := Lp 8192 0 I (by omega) (by omega) (fun _ _ _ => Eq.refl _) (fun b' m e => by omega)
  exact ⟨I', by rw [f_X9_measures, show f_X9_measures_L2 kM 0 J rM 8192 0 I = _ from o1, Option.bind_some], o2, o3⟩
theorem m_shares {C : Nat → Nat → Nat} {ld nm lw : Nat → Nat} {nl nf : Nat} (hCI : CI C nl nf) (hBI : BI ld nm nl nf) (hLI : LI lw) (I : mI) (J : mJ) (hH : MH I nl nf) (hC : MC I C nl nf) (hB : MB I ld nm nf) (hl : ML I lw) :
    ∃ (I' : mI) (g Sg : Nat → Nat), f_X9_shares kM 0 I J rM = some I' ∧ sameM I I' ∧ gOk (PP C ld nm lw nl nf) nf nl (dD (PP C ld nm lw nl nf) nf nl) g Sg ∧ (∀ b, b < nf → I' 10 b = nmI (g b)) ∧ I' 9 0 = nI (dD (PP C ld nm lw nl nf) nf nl 0 0) ∧ ∀ b m, b < nf → m < nl → I' 8 (12 * b + m) = nI (PP C ld nm lw nl nf b m) := by
  obtain ⟨I1, o1, o2, o3⟩ := m_measures hCI hBI I J hH hC hB hl
  have hn := hH.2.2
  have pl : ∀ b m, PP C ld nm lw nl nf b m ≤ 21000 := fun b m => PP_le hCI hLI hn.2
  have s1 : sameM I I1 := fun a k x _ _ => o2 a k x
  obtain ⟨I2, p1, p2, p3⟩ := m_pairs (P := PP C ld nm lw nl nf) hn.2 hn.1 I1 J (hH.same s1).1 (hH.same s1).2.1 (fun b m e1 e2 => ⟨o3 b m e1 e2, pl b m⟩)
  have s2 : sameM I I2 := s1.trans (fun a k _ y _ => p2 a k y)
  obtain ⟨I3, g, Sg, r1, r2, r3, r4⟩ := m_sh_L13 (P := PP C ld nm lw nl nf) (D := dD (PP C ld nm lw nl nf) nf nl) hn.2 hn.1 I2 J (hH.same s2).1 (hH.same s2).2.1 (fun b m e1 e2 => ⟨by rw [p2 8 _ (by decide)]; exact o3 b m e1 e2, pl b m⟩) (fun b' S' e1 e2 => ⟨p3 b' S' e1 e2, dD_le hn.2 (fun b m _ _ => pl b m) e2⟩) 8192 0 I2 (fun _ => 0) (fun _ => 0) (by omega) (by omega) ⟨Eq.refl _, fun b h => absurd h (Nat.not_lt_zero b)⟩ (fun _ _ _ => Eq.refl _) (fun i h => absurd h (Nat.not_lt_zero i))
  refine ⟨I3, g, Sg, ?_, s2.trans (fun a k _ _ z => r3 a k z), r2, r4, ?_, fun b m e1 e2 => ?_⟩
  · rw [f_X9_shares, if_pos km0, o1, Option.bind_some, p1, Option.bind_some]
    dsimp only
    rw [show f_X9_shares_L13 kM 0 J rM 8192 0 0 I2 = _ from r1, Option.bind_some]
  · rw [r3 9 0 (by decide)]
    have := p3 0 0 (by omega) (Nat.two_pow_pos nl)
    simpa using this
  · rw [r3 8 _ (by decide), p2 8 _ (by decide)]
    exact o3 b m e1 e2
theorem ix90 : mIx kM 9 1 (0 : Int32) := mx 0 km9 (by decide) (by decide)
theorem m_marginOf {P : Nat → Nat → Nat} {nl nf b m s : Nat} (hb : b < nf) (hm : m < nl) (I : mI) (J : mJ) (hH : MH I nl nf) (hP : ∀ b m, b < nf → m < nl → I 8 (12 * b + m) = nI (P b m) ∧ P b m ≤ 21000) (h1 : I 10 b = nI m) (h2 : I 9 0 = nI s) : ∃ I', f_X9_marginOf kM 0 (nI b) I J rM = some (nI s - nI (dD (cutP P b m) nf nl 0 0), I') ∧ sameM I I' := by
  have hn := hH.2.2
  have ix : (12 : Int32) * nI b + nI m = nI (12 * b + m) := by rw [show (12 : Int32) = nI 12 from rfl, pk_mul, nI_add]
  obtain ⟨I2, p1, p2, p3⟩ := m_pairs (P := cutP P b m) hn.2 hn.1 (mup I 8 (12 * b + m) 0) J (by rw [mup_ne _ _ (by omega)]; exact hH.1) (by rw [mup_ne _ _ (by omega)]; exact hH.2.1) (fun b' m' e1 e2 => by
    unfold cutP
    by_cases e : b' = b ∧ m' = m
    · rw [if_pos e, e.1, e.2, mup_eq]
      exact ⟨Eq.refl _, by decide⟩
    · rw [if_neg e, mup_ne _ _ (by omega)]
      exact hP b' m' e1 e2)
  refine ⟨mup I2 8 (12 * b + m) (I 8 (12 * b + m)), ?_, fun a k x y z => by rw [mup_ne _ _ (by omega), p2 a k y, mup_ne _ _ (by omega)]⟩
  rw [f_X9_marginOf, if_pos km0, rq8, Option.bind_some, if_pos ix90, rq9, Option.bind_some, if_pos (mx b km10 (by omega) (by decide)), rq7, Option.bind_some, nI_c (show b < 2 ^ 31 by omega), h1, ix, if_pos (mx _ km8 (show 12 * b + m < 144 by omega) (by decide)), Option.bind_some, Option.bind_some, nI_c (show 12 * b + m < 2 ^ 31 by omega), p1, Option.bind_some]
  dsimp only
  rw [Option.bind_some, sb_cl0, h2]
