theorem m_shutOf {C : Nat → Nat → Nat} {ld nm : Nat → Nat} {nl nf b m : Nat} (hCI : CI C nl nf) (hBI : BI ld nm nl nf) (hb : b < nf) (hm : m < nl) (I : mI) (J : mJ) (hH : MH I nl nf) (hC : MC I C nl nf) (hB : MB I ld nm nf) : f_X9_shutOf kM 0 (nI b) (nI m) I J rM = some (nI (barC (bC C ld b nf) (C m))) := by
  have h3 := hH.2.2.1
  have h4 := hH.2.2.2
  have ob : ∀ t, t < 19 → f_X9_ofBody kM 0 (nI b) (nI t) I J rM = some (nI (bC C ld b nf t)) := fun t ht => m_ofBody hCI hBI hb ht I J hH hC hB
  have om : ∀ t, t < 19 → f_X9_ofMissing kM 0 (nI m) (nI t) I J rM = some (nI (C m t)) := fun t ht => m_ofMissing (by omega) ht I J hC
  have bl : ∀ t, t < 22 → bC C ld b nf t < 256 := bC_lt hCI h4
  have dl : ∀ t, t < 22 → C m t < 256 := fun t ht => hCI.lt (by omega) ht
  generalize hc : bC C ld b nf = c at *
  generalize hd : C m = d at *
  have L57 : ∀ (N e i : Nat), i + e = 9 → e < N → f_X9_shutOf_L57 kM 0 (nI b) (nI m) I J rM N (nI i) = some (cond (sufA (fun k => decide (c k ≠ 0) && decide (c k < d k)) e i) (Sum.inl 3) (Sum.inr ())) := by
    intro N
    induction N with
    | zero => intro e i e1 e2; omega
    | succ N ih =>
      intro e i e1 e2
      rw [f_X9_shutOf_L57]
      by_cases hi : e = 0
      · subst hi
        rw [if_pos (show (9 : Int32) ≤ nI i from nI_le (show 9 ≤ i by omega) (by omega))]
        rfl
      · obtain ⟨e', rfl⟩ : ∃ e', e = e' + 1 := ⟨e - 1, by omega⟩
        have ih' := ih e' (i + 1) (by omega) (by omega)
        have b1 := bl i (by omega)
        have b2 := dl i (by omega)
        rw [if_neg (show ¬ (9 : Int32) ≤ nI i from nI_ge (show i < 9 by omega) (by decide)), if_pos km0, ob i (by omega), Option.bind_some, nI_s1]
        simp only [sufA]
        by_cases z : c i = 0
        · rw [if_pos ((nI_z (by omega)).mpr z), ih', show (decide (c i ≠ 0) && decide (c i < d i)) = false by simp [z], Bool.false_or]
        · rw [if_neg (fun q => z ((nI_z (by omega)).mp q)), Option.bind_some, om i (by omega), Option.bind_some]
          by_cases y : c i < d i
          · rw [if_neg (nI_ge y (by omega)), show (decide (c i ≠ 0) && decide (c i < d i)) = true by simp [z, y], Bool.true_or, cond_true]
          · rw [if_pos (nI_le (by omega) (by omega)), ih', show (decide (c i ≠ 0) && decide (c i < d i)) = false by simp [y], Bool.false_or]
  have L98 : ∀ (N e i : Nat), i + e = 16 → 13 ≤ i → e < N → f_X9_shutOf_L98 kM 0 (nI b) (nI m) I J rM N (nI i) = some (cond (sufA (fun k => unl (c k) (d k)) e i) (Sum.inl 4) (Sum.inr ())) := by
    intro N
    induction N with
    | zero => intro e i e1 e0 e2; omega
    | succ N ih =>
      intro e i e1 e0 e2
      rw [f_X9_shutOf_L98]
      by_cases hi : e = 0
      · subst hi
        rw [if_pos (show (16 : Int32) ≤ nI i from nI_le (show 16 ≤ i by omega) (by omega))]
        rfl
      · obtain ⟨e', rfl⟩ : ∃ e', e = e' + 1 := ⟨e - 1, by omega⟩
        have ih' := ih e' (i + 1) (by omega) (by omega) (by omega)
        have b1 := bl i (by omega)
        have b2 := dl i (by omega)
        rw [if_neg (show ¬ (16 : Int32) ≤ nI i from nI_ge (show i < 16 by omega) (by decide)), if_pos km0, ob i (by omega), Option.bind_some, om i (by omega), Option.bind_some, m_areUnlike (by omega) (by omega), Option.bind_some, nI_s1]
        simp only [sufA]
        by_cases z : unl (c i) (d i) = true
        · rw [z, if_neg (by decide), Bool.true_or, cond_true]
        · have z : unl (c i) (d i) = false := by simpa using z
          rw [z, if_pos mb_f, ih', Bool.false_or]
  have L132 : ∀ (N e i : Nat), i + e = 3 → e < N → f_X9_shutOf_L132 kM 0 (nI b) (nI m) I J rM N (nI i) = some (cond (sufA (bcP c d) e i) (Sum.inl 5) (Sum.inr ())) := by
    intro N
    induction N with
    | zero => intro e i e1 e2; omega
    | succ N ih =>
      intro e i e1 e2
      rw [f_X9_shutOf_L132]
      by_cases hi : e = 0
      · subst hi
        rw [if_pos (show (3 : Int32) ≤ nI i from nI_le (show 3 ≤ i by omega) (by omega))]
        rfl
      · obtain ⟨e', rfl⟩ : ∃ e', e = e' + 1 := ⟨e - 1, by omega⟩
        have ih' := ih e' (i + 1) (by omega) (by omega)
        have b1 := bl (13 + i) (by omega)
        have b2 := dl (16 + i) (by omega)
        rw [if_neg (show ¬ (3 : Int32) ≤ nI i from nI_ge (show i < 3 by omega) (by decide)), if_pos km0, show (13 : Int32) + nI i = nI (13 + i) by rw [show (13 : Int32) = nI 13 from rfl, nI_add], show (16 : Int32) + nI i = nI (16 + i) by rw [show (16 : Int32) = nI 16 from rfl, nI_add], ob (13 + i) (by omega), Option.bind_some, om (16 + i) (by omega), Option.bind_some, nI_s1]
        simp only [sufA]
        by_cases z : c (13 + i) = 0
        · rw [if_pos ((nI_z (by omega)).mpr z), ih', show bcP c d i = false by simp [bcP, z], Bool.false_or]
        · rw [if_neg (fun q => z ((nI_z (by omega)).mp q))]
          by_cases y : d (16 + i) = 0
          · rw [if_pos ((nI_z (by omega)).mpr y), ih', show bcP c d i = false by simp [bcP, y], Bool.false_or]
          · rw [if_neg (fun q => y ((nI_z (by omega)).mp q)), m_sharesNone (by omega) (by omega), Option.bind_some]
            by_cases v : shn (c (13 + i)) (d (16 + i)) = true
            · rw [v, if_neg (by decide), show bcP c d i = true by simp [bcP, z, y, v], Bool.true_or, cond_true]
            · have v : shn (c (13 + i)) (d (16 + i)) = false := by simpa using v
              rw [v, if_pos mb_f, ih', show bcP c d i = false by simp [bcP, v], Bool.false_or]
  have q57 := L57 8192 8 1 rfl (by decide)
  have q98 := L98 8192 3 13 rfl (by decide) (by decide)
  have q132 := L132 8192 3 0 rfl (by decide)
  rw [← sufA_shift (fun k => decide (c k ≠ 0) && decide (c k < d k)) 1 8 0] at q57
  rw [← sufA_shift (fun k => unl (c k) (d k)) 13 3 0] at q98
  have ag := fun g => m_ageOf hCI hBI hb g I J hH hC hB
  rw [hc] at ag
  have hm3 : I 3 m = nI (d 19) := by have := (hC m (by omega)).2.1; rw [hd] at this; exact this
  have hm4 : I 4 m = nI (d 20) := by have := (hC m (by omega)).2.2.1 (Or.inl ⟨by omega, hm⟩); rw [hd] at this; exact this
  have a1 := bl 19 (by decide)
  have a2 := bl 20 (by decide)
  have a3 := dl 19 (by decide)
  have a4 := dl 20 (by decide)
  have a5 := bl 0 (by decide)
  have a6 := dl 0 (by decide)
  rw [f_X9_shutOf, if_pos km0, show f_X9_ofBody kM 0 (nI b) 0 I J rM = _ from ob 0 (by decide), Option.bind_some, show f_X9_ofMissing kM 0 (nI m) 0 I J rM = _ from om 0 (by decide), Option.bind_some, m_areUnlike (by omega) (by omega), Option.bind_some]
  unfold barC
  by_cases e1 : unl (c 0) (d 0) = true
  · rw [e1, if_neg (by decide), if_pos rfl]; rfl
  · have e1 : unl (c 0) (d 0) = false := by simpa using e1
    rw [e1, if_pos mb_f, if_neg (by decide), ag false, Option.bind_some, rq2, Option.bind_some, if_pos (mx m km3 (by omega) (by decide)), ag true, Option.bind_some, rq3, Option.bind_some, if_pos (mx m km4 (by omega) (by decide)), nI_c (show m < 2 ^ 31 by omega), hm3, hm4]
    simp only [Bool.false_eq_true, if_false, if_true]
    rw [imax_nI (by omega) (by omega), imin_nI (by omega) (by omega)]
    by_cases e2 : min (c 20) (d 20) < max (c 19) (d 19)
    · rw [if_pos e2, if_neg (nI_ge e2 (by omega))]; rfl
    · rw [if_neg e2, if_pos (nI_le (by omega) (by omega)), show f_X9_shutOf_L57 kM 0 (nI b) (nI m) I J rM 8192 1 = _ from q57, Option.bind_some]
      by_cases e3 : sufA (bcT c d) 8 0 = true
      · rw [show sufA (fun k => (fun k => decide (c k ≠ 0) && decide (c k < d k)) (1 + k)) 8 0 = true from e3, if_pos e3]; rfl
      · have e3 : sufA (bcT c d) 8 0 = false := by simpa using e3
        rw [show sufA (fun k => (fun k => decide (c k ≠ 0) && decide (c k < d k)) (1 + k)) 8 0 = false from e3, if_neg (by rw [e3]; decide)]
        show (f_X9_shutOf_L98 kM 0 (nI b) (nI m) I J rM 8192 13).bind _ = _
        rw [show f_X9_shutOf_L98 kM 0 (nI b) (nI m) I J rM 8192 13 = _ from q98, Option.bind_some]
        by_cases e4 : sufA (bcS c d) 3 0 = true
        · rw [show sufA (fun k => (fun k => unl (c k) (d k)) (13 + k)) 3 0 = true from e4, if_pos e4]; rfl
        · have e4 : sufA (bcS c d) 3 0 = false := by simpa using e4
          rw [show sufA (fun k => (fun k => unl (c k) (d k)) (13 + k)) 3 0 = false from e4, if_neg (by rw [e4]; decide)]
          show (f_X9_shutOf_L132 kM 0 (nI b) (nI m) I J rM 8192 0).bind _ = _
          rw [show f_X9_shutOf_L132 kM 0 (nI b) (nI m) I J rM 8192 0 = _ from q132, Option.bind_some]
          cases sufA (bcP c d) 3 0 <;> rfl
theorem m_pointsOf {C : Nat → Nat → Nat} {ld nm lw : Nat → Nat} {nl nf b m : Nat} (hCI : CI C nl nf) (hBI : BI ld nm nl nf) (hb : b < nf) (hm : m < nl) (I : mI) (J : mJ) (hH : MH I nl nf) (hC : MC I C nl nf) (hB : MB I ld nm nf) (hl : ML I lw) : f_X9_pointsOf kM 0 (nI b) (nI m) I J rM = some (if barC (bC C ld b nf) (C m) = 0 then ptA (bC C ld b nf) (C m) lw else -100000) := by
  have h3 := hH.2.2.1
  have h4 := hH.2.2.2
  have ob : ∀ t, t < 19 → f_X9_ofBody kM 0 (nI b) (nI t) I J rM = some (nI (bC C ld b nf t)) := fun t ht => m_ofBody hCI hBI hb ht I J hH hC hB
  have om : ∀ t, t < 19 → f_X9_ofMissing kM 0 (nI m) (nI t) I J rM = some (nI (C m t)) := fun t ht => m_ofMissing (by omega) ht I J hC
  have bl : ∀ t, t < 22 → bC C ld b nf t < 256 := bC_lt hCI h4
  have dl : ∀ t, t < 22 → C m t < 256 := fun t ht => hCI.lt (by omega) ht
  obtain ⟨hct, hcs⟩ := bC_rng hCI (ld := ld) (b := b) h4
  have hsh := m_shutOf hCI hBI hb hm I J hH hC hB
  generalize hc : bC C ld b nf = c at *
  generalize hd : C m = d at *
  have L17 : ∀ (N e i : Nat) (v : Int32), i + e = 9 → 1 ≤ i → e < N → f_X9_pointsOf_L17 kM 0 (nI b) (nI m) I J rM N v (nI i) = some (v + sumI (fun k => if c k ≠ 0 ∧ c k = d k then nI (lw (c k)) else 0) e i) := by
    intro N
    induction N with
    | zero => intro e i v e1 e0 e2; omega
    | succ N ih =>
      intro e i v e1 e0 e2
      rw [f_X9_pointsOf_L17]
      by_cases hi : e = 0
      · subst hi
        rw [if_pos (show (9 : Int32) ≤ nI i from nI_le (show 9 ≤ i by omega) (by omega)), sumI, Int32.add_zero]
      · obtain ⟨e', rfl⟩ : ∃ e', e = e' + 1 := ⟨e - 1, by omega⟩
        have b1 := hct i (by omega) (by omega)
        have b2 := dl i (by omega)
        rw [if_neg (show ¬ (9 : Int32) ≤ nI i from nI_ge (show i < 9 by omega) (by decide)), if_pos km0, ob i (by omega), Option.bind_some, nI_s1]
        by_cases z : c i = 0
        · rw [if_pos ((nI_z (by omega)).mpr z), ih e' (i + 1) v (by omega) (by omega) (by omega), sumI, if_neg (fun q => q.1 z), Int32.zero_add]
        · rw [if_neg (fun q => z ((nI_z (by omega)).mp q)), Option.bind_some, om i (by omega), Option.bind_some]
          by_cases y : c i = d i
          · rw [if_pos (by rw [y]), rq14, Option.bind_some, Option.bind_some, if_pos (mx (c i) km14 (by omega) (by decide)), nI_c (show c i < 2 ^ 31 by omega), hl (c i) (by omega), ih e' (i + 1) _ (by omega) (by omega) (by omega), sumI, if_pos ⟨z, y⟩, Int32.add_assoc]
          · rw [if_neg (fun q => y ((nI_eq (by omega) (by omega)).mp q)), ih e' (i + 1) v (by omega) (by omega) (by omega), sumI, if_neg (fun q => y q.2), Int32.zero_add]
  have L75 : ∀ (N e i : Nat) (v : Int32), i + e = 4 → e < N → f_X9_pointsOf_L75 kM 0 (nI b) (nI m) I J rM N v (nI i) = some (v + sumI (ptM c d lw) e i) := by
    intro N
    induction N with
    | zero => intro e i v e1 e2; omega
    | succ N ih =>
      intro e i v e1 e2
      rw [f_X9_pointsOf_L75]
      by_cases hi : e = 0
      · subst hi
        rw [if_pos (show (4 : Int32) ≤ nI i from nI_le (show 4 ≤ i by omega) (by omega)), sumI, Int32.add_zero]
      · obtain ⟨e', rfl⟩ : ∃ e', e = e' + 1 := ⟨e - 1, by omega⟩
        have b1 := bl (9 + i) (by omega)
        have b2 := dl (9 + i) (by omega)
        rw [if_neg (show ¬ (4 : Int32) ≤ nI i from nI_ge (show i < 4 by omega) (by decide)), if_pos km0, show (9 : Int32) + nI i = nI (9 + i) by rw [show (9 : Int32) = nI 9 from rfl, nI_add], show (4 : Int32) + nI i = nI (4 + i) by rw [show (4 : Int32) = nI 4 from rfl, nI_add], ob (9 + i) (by omega), Option.bind_some, om (9 + i) (by omega), Option.bind_some, nI_s1]
        by_cases z : c (9 + i) = 0
        · rw [if_pos ((nI_z (by omega)).mpr z), ih e' (i + 1) v (by omega) (by omega), sumI, show ptM c d lw i = 0 by (unfold ptM; rw [if_neg (fun q => q.1 z)]), Int32.zero_add]
        · rw [if_neg (fun q => z ((nI_z (by omega)).mp q))]
          by_cases y : d (9 + i) = 0
          · rw [if_pos ((nI_z (by omega)).mpr y), ih e' (i + 1) v (by omega) (by omega), sumI, show ptM c d lw i = 0 by (unfold ptM; rw [if_neg (fun q => q.2 y)]), Int32.zero_add]
          · rw [if_neg (fun q => y ((nI_z (by omega)).mp q))]
            by_cases w : c (9 + i) = d (9 + i)
            · rw [if_pos (by rw [w]), rq14, Option.bind_some, if_pos (mx _ km14 (show 4 + i < 42 by omega) (by decide)), nI_c (show 4 + i < 2 ^ 31 by omega), hl (4 + i) (by omega), ih e' (i + 1) _ (by omega) (by omega), sumI, show ptM c d lw i = nI (lw (4 + i)) by (unfold ptM; rw [if_pos ⟨z, y⟩, if_pos w]), Int32.add_assoc]
            · rw [if_neg (fun q => w ((nI_eq (by omega) (by omega)).mp q)), rq14, Option.bind_some, if_pos (mx _ km14 (show 4 + i < 42 by omega) (by decide)), nI_c (show 4 + i < 2 ^ 31 by omega), hl (4 + i) (by omega), ih e' (i + 1) _ (by omega) (by omega), sumI, show ptM c d lw i = -(nI (lw (4 + i))) by (unfold ptM; rw [if_pos ⟨z, y⟩, if_neg w]), Int32.add_assoc]
  have L156 : ∀ (N e i : Nat) (v : Int32), i + e = 3 → e < N → f_X9_pointsOf_L156 kM 0 (nI b) (nI m) I J rM N v (nI i) = some (v + sumI (ptS c d lw) e i) := by
    intro N
    induction N with
    | zero => intro e i v e1 e2; omega
    | succ N ih =>
      intro e i v e1 e2
      rw [f_X9_pointsOf_L156]
      by_cases hi : e = 0
      · subst hi
        rw [if_pos (show (3 : Int32) ≤ nI i from nI_le (show 3 ≤ i by omega) (by omega)), sumI, Int32.add_zero]
      · obtain ⟨e', rfl⟩ : ∃ e', e = e' + 1 := ⟨e - 1, by omega⟩
        have b0 := hcs (13 + i) (by omega) (by omega)
        have b1 := sh_lt b0
        have b2 := dl (13 + i) (by omega)
        have b3 := dl (16 + i) (by omega)
        rw [if_neg (show ¬ (3 : Int32) ≤ nI i from nI_ge (show i < 3 by omega) (by decide)), if_pos km0, show (13 : Int32) + nI i = nI (13 + i) by rw [show (13 : Int32) = nI 13 from rfl, nI_add], show (16 : Int32) + nI i = nI (16 + i) by rw [show (16 : Int32) = nI 16 from rfl, nI_add], ob (13 + i) (by omega), Option.bind_some, nI_s1]
        by_cases z : c (13 + i) = 0
        · rw [if_pos ((nI_z (by omega)).mpr z), if_pos ((nI_z (by omega)).mpr z), ih e' (i + 1) v (by omega) (by omega), sumI, show ptS c d lw i = 0 by (unfold ptS; rw [if_pos z]), Int32.zero_add]
        · have hs := b0.resolve_left z
          have zn : ¬ nI (c (13 + i)) = 0 := fun q => z ((nI_z (by omega)).mp q)
          rw [if_neg zn, om (13 + i) (by omega), Option.bind_some]
          by_cases y : d (13 + i) = 0
          · rw [if_pos ((nI_z (by omega)).mpr y), if_neg zn, om (16 + i) (by omega), Option.bind_some]
            by_cases w : d (16 + i) = 0
            · rw [if_pos ((nI_z (by omega)).mpr w), ih e' (i + 1) v (by omega) (by omega), sumI, show ptS c d lw i = 0 by (unfold ptS; rw [if_neg z, if_pos y, if_pos w]; rfl), Int32.zero_add]
            · rw [if_neg (fun q => w ((nI_z (by omega)).mp q)), rq14, Option.bind_some, show (17 : Int32) = nI 17 from rfl, if_pos (mx 17 km14 (by decide) (by decide)), nI_c (by decide), hl 17 (by decide), ih e' (i + 1) _ (by omega) (by omega), sumI, show ptS c d lw i = nI (lw 17) by (unfold ptS; rw [if_neg z, if_pos y, if_neg w, Int32.zero_add]), Int32.add_assoc]
          · rw [if_neg (fun q => y ((nI_z (by omega)).mp q)), rq14, Option.bind_some, m10 (show c (13 + i) < 2 ^ 31 by omega), d10 (show c (13 + i) < 2 ^ 31 by omega), show (7 : Int32) + nI (c (13 + i) / 10) = nI (7 + c (13 + i) / 10) by rw [show (7 : Int32) = nI 7 from rfl, nI_add], show (7 : Int32) + nI (c (13 + i) % 10) = nI (7 + c (13 + i) % 10) by rw [show (7 : Int32) = nI 7 from rfl, nI_add], if_pos (mx _ km14 (show 7 + c (13 + i) / 10 < 42 by omega) (by decide)), if_pos (mx _ km14 (show 7 + c (13 + i) % 10 < 42 by omega) (by decide)), Option.bind_some, nI_c (show 7 + c (13 + i) / 10 < 2 ^ 31 by omega), nI_c (show 7 + c (13 + i) % 10 < 2 ^ 31 by omega), hl _ (by omega), hl _ (by omega), if_neg zn, om (16 + i) (by omega), Option.bind_some]
            by_cases w : d (16 + i) = 0
            · rw [if_pos ((nI_z (by omega)).mpr w), ih e' (i + 1) _ (by omega) (by omega), sumI, show ptS c d lw i = nI (lw (7 + c (13 + i) / 10)) + nI (lw (7 + c (13 + i) % 10)) by (unfold ptS; rw [if_neg z, if_neg y, if_pos w, Int32.add_zero]), Int32.add_assoc v]
            · rw [if_neg (fun q => w ((nI_z (by omega)).mp q)), show (17 : Int32) = nI 17 from rfl, if_pos (mx 17 km14 (by decide) (by decide)), nI_c (by decide), hl 17 (by decide), ih e' (i + 1) _ (by omega) (by omega), sumI, show ptS c d lw i = nI (lw (7 + c (13 + i) / 10)) + nI (lw (7 + c (13 + i) % 10)) + nI (lw 17) by (unfold ptS; rw [if_neg z, if_neg y, if_neg w]), Int32.add_assoc v, Int32.add_assoc v]
  have := barC_le c d
  rw [f_X9_pointsOf, if_pos km0, hsh, Option.bind_some]
  by_cases h : barC c d = 0
  · have q17 := L17 8192 8 1 0 rfl (by decide) (by decide)
    rw [← sumI_shift (fun k => if c k ≠ 0 ∧ c k = d k then nI (lw (c k)) else 0) 1 8 0] at q17
    rw [if_pos ((nI_z (by omega)).mpr h), show f_X9_pointsOf_L17 kM 0 (nI b) (nI m) I J rM 8192 0 1 = _ from q17, Option.bind_some, show f_X9_pointsOf_L75 kM 0 (nI b) (nI m) I J rM 8192 _ 0 = _ from L75 8192 4 0 _ rfl (by decide), Option.bind_some, show f_X9_pointsOf_L156 kM 0 (nI b) (nI m) I J rM 8192 _ 0 = _ from L156 8192 3 0 _ rfl (by decide), Option.bind_some, if_pos h, Int32.zero_add]
    rfl
  · rw [if_neg (fun z => h ((nI_z (by omega)).mp z)), if_neg h]
