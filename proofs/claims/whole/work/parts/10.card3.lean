/-! ===== points of the class ===== -/
def XL (I : mI) (L : Nat) (lw : Nat → Nat) : Prop := (∀ i, 1 ≤ i → i ≤ 3 → I (L + 1) i = nI (lw i)) ∧ (∀ i, i < 4 → I (L + 2) i = nI (lw (4 + i))) ∧ (∀ i, 1 ≤ i → i ≤ 9 → I (L + 3) i = nI (lw (7 + i))) ∧ (∀ i, i < 4 → I (L + 4) i = nI (lw (17 + i)))
def LI (lw : Nat → Nat) : Prop := ∀ i, i < 21 → lw i ≤ 999
def isL (R : mR) (L : Nat) : Prop := kX L = (0, 3) ∧ kX (L + 1) = (1, 4) ∧ kX (L + 2) = (1, 4) ∧ kX (L + 3) = (1, 10) ∧ kX (L + 4) = (1, 4) ∧ R L 0 = some (L + 1) ∧ R L 1 = some (L + 2) ∧ R L 2 = some (L + 3) ∧ R L 3 = some (L + 4)
theorem XR.law {R : mR} {L L' : Nat} (h : XR R L L') : isL R L ∧ isL R L' := by
  have h1 : isL R 180 := ⟨rfl, rfl, rfl, rfl, rfl, h.at (by decide) (by decide) rfl, h.at (by decide) (by decide) rfl, h.at (by decide) (by decide) rfl, h.at (by decide) (by decide) rfl⟩
  have h2 : isL R 185 := ⟨rfl, rfl, rfl, rfl, rfl, h.at (by decide) (by decide) rfl, h.at (by decide) (by decide) rfl, h.at (by decide) (by decide) rfl, h.at (by decide) (by decide) rfl⟩
  rcases h.2.2.2 with ⟨rfl, rfl⟩ | ⟨rfl, rfl⟩
  · exact ⟨h1, h2⟩
  · exact ⟨h2, h1⟩
def sumI (f : Nat → Int32) : Nat → Nat → Int32
  | 0, _ => 0
  | d + 1, i => f i + sumI f d (i + 1)
theorem sumI_shift (f : Nat → Int32) (c : Nat) : ∀ d i, sumI (fun k => f (c + k)) d i = sumI f d (c + i)
  | 0, _ => rfl
  | d + 1, i => by
    simp only [sumI]
    rw [sumI_shift f c d (i + 1), show c + (i + 1) = c + i + 1 by omega]
def ptT (c d lw : Nat → Nat) (k : Nat) : Int32 := if c (1 + k) ≠ 0 ∧ c (1 + k) = d (1 + k) then nI (lw (c (1 + k))) else 0
def ptM (c d lw : Nat → Nat) (k : Nat) : Int32 := if c (9 + k) ≠ 0 ∧ d (9 + k) ≠ 0 then (if c (9 + k) = d (9 + k) then nI (lw (4 + k)) else -(nI (lw (4 + k)))) else 0
def ptS (c d lw : Nat → Nat) (k : Nat) : Int32 := if c (13 + k) = 0 then 0 else (if d (13 + k) = 0 then 0 else nI (lw (7 + c (13 + k) / 10)) + nI (lw (7 + c (13 + k) % 10))) + (if d (16 + k) = 0 then 0 else nI (lw 17))
def ptA (c d lw : Nat → Nat) : Int32 := (sumI (ptT c d lw) 8 0 + sumI (ptM c d lw) 4 0) + sumI (ptS c d lw) 3 0
theorem x_within {x lo hi : Nat} (hx : x < 2 ^ 31) (hl : lo < 2 ^ 31) (hh : hi < 2 ^ 31) {K : mK} {I : mI} {J : mJ} {R : mR} : f_X8_within K (nI x) (nI lo) (nI hi) I J R = some (decide (lo ≤ x ∧ x ≤ hi)) := by
  rw [f_X8_within]
  by_cases h1 : x < lo
  · rw [if_pos (nI_lt h1 hl), decide_eq_false (by omega)]
  · rw [if_neg (nI_nlt (by omega) hx)]
    by_cases h2 : hi < x
    · rw [if_pos (nI_lt h2 hx), decide_eq_false (by omega)]
    · rw [if_neg (nI_nlt (by omega) hh), decide_eq_true (by omega)]
theorem x_weighTeeth {R : mR} {L a x : Nat} (hL : isL R L) (hC : isC R a) (hX : isC R x) {c d lw : Nat → Nat} (hc : ∀ t, 1 ≤ t → t < 9 → c t ≤ 3) (hd : ∀ t, t < 22 → d t < 1000) {I : mI} {J : mJ} (h1 : bodyv I a c) (h2 : bodyv I x d) (hl : XL I L lw) : f_X3_weighTeeth kX L a x I J R = some (0 + sumI (ptT c d lw) 8 0) := by
  obtain ⟨k0, k1, -, -, -, r4, -, -, -⟩ := hC
  obtain ⟨l0, l1, -, -, -, s4, -, -, -⟩ := hX
  obtain ⟨m0, m1, -, -, -, t0, -, -, -⟩ := hL
  have Lp : ∀ (N e i : Nat) (v : Int32), i + e = 8 → e < N → f_X3_weighTeeth_L5 kX L a x I J R N v (nI i) = some (v + sumI (ptT c d lw) e i) := by
    intro N
    induction N with
    | zero => intro e i v e1 e2; omega
    | succ N ih =>
      intro e i v e1 e2
      rw [f_X3_weighTeeth_L5]
      by_cases hi : e = 0
      · subst hi
        rw [if_pos (show (8 : Int32) ≤ nI i from nI_le (show 8 ≤ i by omega) (by omega)), sumI, Int32.add_zero]
      · have hi8 : i < 8 := by omega
        obtain ⟨e', rfl⟩ : ∃ e', e = e' + 1 := ⟨e - 1, by omega⟩
        have b1 := hc (1 + i) (by omega) (by omega)
        have b2 := hd (1 + i) (by omega)
        rw [if_neg (show ¬ (8 : Int32) ≤ nI i from nI_ge hi8 (by decide)), if_pos k0, r4, Option.bind_some, if_pos (mx i k1 hi8 (by decide)), nI_c (show i < 2 ^ 31 by omega), h1.t hi8, nI_s1, show (1 : Int32) = nI 1 from rfl, show (3 : Int32) = nI 3 from rfl, x_within (by omega) (by decide) (by decide), Option.bind_some]
        have skip : ∀ v, ptT c d lw i = 0 → f_X3_weighTeeth_L5 kX L a x I J R N v (nI (i + 1)) = some (v + sumI (ptT c d lw) (e' + 1) i) := fun v h0 => by
          rw [ih e' (i + 1) v (by omega) (by omega), sumI, h0, Int32.zero_add]
        by_cases z : c (1 + i) = 0
        · rw [if_pos (by rw [mb_0, z]; decide)]
          exact skip v (by unfold ptT; rw [if_neg (fun q => q.1 z)])
        · rw [if_neg (by rw [mb_0, decide_eq_true (by omega)]; decide), if_pos l0, s4, Option.bind_some, if_pos (mx i l1 hi8 (by decide)), h2.t hi8]
          by_cases y : c (1 + i) = d (1 + i)
          · rw [← y, if_pos rfl, if_pos m0, t0, Option.bind_some, if_pos (mx _ m1 (show c (1 + i) < 4 by omega) (by decide)), nI_c (show c (1 + i) < 2 ^ 31 by omega), hl.1 _ (by omega) b1, ih e' (i + 1) _ (by omega) (by omega), sumI, show ptT c d lw i = nI (lw (c (1 + i))) by (unfold ptT; rw [if_pos ⟨z, y⟩]), Int32.add_assoc]
          · rw [if_neg (fun q => y ((nI_eq (by omega) (by omega)).mp q))]
            exact skip v (by unfold ptT; rw [if_neg (fun q => y q.2)])
  rw [f_X3_weighTeeth, show f_X3_weighTeeth_L5 kX L a x I J R 8192 0 0 = _ from Lp 8192 8 0 0 rfl (by decide), Option.bind_some]
theorem x_weighMarks {R : mR} {L a x : Nat} (hL : isL R L) (hC : isC R a) (hX : isC R x) {c d lw : Nat → Nat} (hc : ∀ t, t < 22 → c t < 1000) (hd : ∀ t, t < 22 → d t < 1000) {I : mI} {J : mJ} (h1 : bodyv I a c) (h2 : bodyv I x d) (hl : XL I L lw) : f_X3_weighMarks kX L a x I J R = some (0 + sumI (ptM c d lw) 4 0) := by
  obtain ⟨k0, -, k2, -, -, -, r5, -, -⟩ := hC
  obtain ⟨l0, -, l2, -, -, -, s5, -, -⟩ := hX
  obtain ⟨m0, -, m2, -, -, -, t1, -, -⟩ := hL
  have Lp : ∀ (N e i : Nat) (v : Int32), i + e = 4 → e < N → f_X3_weighMarks_L5 kX L a x I J R N v (nI i) = some (v + sumI (ptM c d lw) e i) := by
    intro N
    induction N with
    | zero => intro e i v e1 e2; omega
    | succ N ih =>
      intro e i v e1 e2
      rw [f_X3_weighMarks_L5]
      by_cases hi : e = 0
      · subst hi
        rw [if_pos (show (4 : Int32) ≤ nI i from nI_le (show 4 ≤ i by omega) (by omega)), sumI, Int32.add_zero]
      · have hi8 : i < 4 := by omega
        obtain ⟨e', rfl⟩ : ∃ e', e = e' + 1 := ⟨e - 1, by omega⟩
        have b1 := hc (9 + i) (by omega)
        have b2 := hd (9 + i) (by omega)
        have skip : ∀ v, ptM c d lw i = 0 → f_X3_weighMarks_L5 kX L a x I J R N v (nI (i + 1)) = some (v + sumI (ptM c d lw) (e' + 1) i) := fun v h0 => by
          rw [ih e' (i + 1) v (by omega) (by omega), sumI, h0, Int32.zero_add]
        rw [if_neg (show ¬ (4 : Int32) ≤ nI i from nI_ge hi8 (by decide)), if_pos k0, r5, Option.bind_some, if_pos (mx i k2 hi8 (by decide)), nI_c (show i < 2 ^ 31 by omega), h1.m hi8, nI_s1]
        by_cases z : c (9 + i) = 0
        · rw [if_pos ((nI_z (by omega)).mpr z)]
          exact skip v (by unfold ptM; rw [if_neg (fun q => q.1 z)])
        · rw [if_neg (fun q => z ((nI_z (by omega)).mp q)), if_pos l0, s5, Option.bind_some, if_pos (mx i l2 hi8 (by decide)), h2.m hi8]
          by_cases y : d (9 + i) = 0
          · rw [if_pos ((nI_z (by omega)).mpr y)]
            exact skip v (by unfold ptM; rw [if_neg (fun q => q.2 y)])
          · rw [if_neg (fun q => y ((nI_z (by omega)).mp q))]
            by_cases w : c (9 + i) = d (9 + i)
            · rw [if_pos (by rw [w]), if_pos m0, t1, Option.bind_some, if_pos (mx i m2 hi8 (by decide)), hl.2.1 i hi8, ih e' (i + 1) _ (by omega) (by omega), sumI, show ptM c d lw i = nI (lw (4 + i)) by (unfold ptM; rw [if_pos ⟨z, y⟩, if_pos w]), Int32.add_assoc]
            · rw [if_neg (fun q => w ((nI_eq (by omega) (by omega)).mp q)), if_pos m0, t1, Option.bind_some, if_pos (mx i m2 hi8 (by decide)), hl.2.1 i hi8, ih e' (i + 1) _ (by omega) (by omega), sumI, show ptM c d lw i = -(nI (lw (4 + i))) by (unfold ptM; rw [if_pos ⟨z, y⟩, if_neg w]), Int32.add_assoc]
  rw [f_X3_weighMarks, show f_X3_weighMarks_L5 kX L a x I J R 8192 0 0 = _ from Lp 8192 4 0 0 rfl (by decide), Option.bind_some]
theorem x_weighSheets {R : mR} {L a x : Nat} (hL : isL R L) (hC : isC R a) (hX : isC R x) {c d lw : Nat → Nat} (hc : ∀ t, 13 ≤ t → t < 16 → sh (c t)) (hd : ∀ t, t < 22 → d t < 1000) {I : mI} {J : mJ} (h1 : bodyv I a c) (h2 : cardv I x d) (hl : XL I L lw) : f_X3_weighSheets kX L a x I J R = some (0 + sumI (ptS c d lw) 3 0) := by
  obtain ⟨k0, -, -, k3, -, -, -, r6, -⟩ := hC
  obtain ⟨l0, -, -, l3, l4, -, -, s6, s7⟩ := hX
  obtain ⟨m0, -, -, m3, m4, -, -, t2, t3⟩ := hL
  have Lp : ∀ (N e i : Nat) (v : Int32), i + e = 3 → e < N → f_X3_weighSheets_L5 kX L a x I J R N v (nI i) = some (v + sumI (ptS c d lw) e i) := by
    intro N
    induction N with
    | zero => intro e i v e1 e2; omega
    | succ N ih =>
      intro e i v e1 e2
      rw [f_X3_weighSheets_L5]
      by_cases hi : e = 0
      · subst hi
        rw [if_pos (show (3 : Int32) ≤ nI i from nI_le (show 3 ≤ i by omega) (by omega)), sumI, Int32.add_zero]
      · have hi8 : i < 3 := by omega
        obtain ⟨e', rfl⟩ : ∃ e', e = e' + 1 := ⟨e - 1, by omega⟩
        have b0 := hc (13 + i) (by omega) (by omega)
        have b1 := sh_lt b0
        have b2 := hd (13 + i) (by omega)
        have b3 := hd (16 + i) (by omega)
        have q17 : I (L + 4) 0 = nI (lw 17) := hl.2.2.2 0 (by decide)
        rw [if_neg (show ¬ (3 : Int32) ≤ nI i from nI_ge hi8 (by decide)), if_pos k0, r6, Option.bind_some, if_pos (mx i k3 hi8 (by decide)), nI_c (show i < 2 ^ 31 by omega), h1.h hi8, nI_s1, show (11 : Int32) = nI 11 from rfl, show (99 : Int32) = nI 99 from rfl, x_within (by omega) (by decide) (by decide), Option.bind_some]
        by_cases z : c (13 + i) = 0
        · rw [if_pos (by rw [mb_0, z]; decide), ih e' (i + 1) v (by omega) (by omega), sumI, show ptS c d lw i = 0 by (unfold ptS; rw [if_pos z]), Int32.zero_add]
        · have hs := b0.resolve_left z
          rw [if_neg (by rw [mb_0, decide_eq_true (by omega)]; decide), if_pos l0, s6, Option.bind_some, if_pos (mx i l3 hi8 (by decide)), h2.b.h hi8]
          by_cases y : d (13 + i) = 0
          · rw [if_pos ((nI_z (by omega)).mpr y), s7, Option.bind_some, if_pos (mx i l4 hi8 (by decide)), h2.p hi8]
            by_cases w : d (16 + i) = 0
            · rw [if_pos ((nI_z (by omega)).mpr w), ih e' (i + 1) v (by omega) (by omega), sumI, show ptS c d lw i = 0 by (unfold ptS; rw [if_neg z, if_pos y, if_pos w]; rfl), Int32.zero_add]
            · rw [if_neg (fun q => w ((nI_z (by omega)).mp q)), if_pos m0, t3, Option.bind_some, if_pos (show mIx kX (L + 4) 1 (0 : Int32) from mx 0 m4 (by decide) (by decide)), sb_cl0, q17, ih e' (i + 1) _ (by omega) (by omega), sumI, show ptS c d lw i = nI (lw 17) by (unfold ptS; rw [if_neg z, if_pos y, if_neg w, Int32.zero_add]), Int32.add_assoc]
          · rw [if_neg (fun q => y ((nI_z (by omega)).mp q)), if_pos m0, t2, Option.bind_some, m10 (show c (13 + i) < 2 ^ 31 by omega), d10 (show c (13 + i) < 2 ^ 31 by omega), if_pos (mx _ m3 (show c (13 + i) / 10 < 10 by omega) (by decide)), if_pos (mx _ m3 (show c (13 + i) % 10 < 10 by omega) (by decide)), Option.bind_some, nI_c (show c (13 + i) / 10 < 2 ^ 31 by omega), nI_c (show c (13 + i) % 10 < 2 ^ 31 by omega), hl.2.2.1 _ hs.1 hs.2.1, hl.2.2.1 _ hs.2.2 (by omega), s7, Option.bind_some, if_pos (mx i l4 hi8 (by decide)), h2.p hi8]
            by_cases w : d (16 + i) = 0
            · rw [if_pos ((nI_z (by omega)).mpr w), ih e' (i + 1) _ (by omega) (by omega), sumI, show ptS c d lw i = nI (lw (7 + c (13 + i) / 10)) + nI (lw (7 + c (13 + i) % 10)) by (unfold ptS; rw [if_neg z, if_neg y, if_pos w, Int32.add_zero]), Int32.add_assoc v]
            · rw [if_neg (fun q => w ((nI_z (by omega)).mp q)), t3, Option.bind_some, if_pos (show mIx kX (L + 4) 1 (0 : Int32) from mx 0 m4 (by decide) (by decide)), sb_cl0, q17, ih e' (i + 1) _ (by omega) (by omega), sumI, show ptS c d lw i = nI (lw (7 + c (13 + i) / 10)) + nI (lw (7 + c (13 + i) % 10)) + nI (lw 17) by (unfold ptS; rw [if_neg z, if_neg y, if_neg w]), Int32.add_assoc v, Int32.add_assoc v]
  rw [f_X3_weighSheets, show f_X3_weighSheets_L5 kX L a x I J R 8192 0 0 = _ from Lp 8192 3 0 0 rfl (by decide), Option.bind_some]
theorem barC_le (c d : Nat → Nat) : barC c d ≤ 5 := by
  unfold barC
  split
  · decide
  · split
    · decide
    · split
      · decide
      · split
        · decide
        · split <;> decide
theorem x_weigh {R : mR} {L a x : Nat} (hL : isL R L) (hC : isC R a) (hX : isC R x) {c d lw : Nat → Nat} (hc : ∀ t, t < 22 → c t < 1000) (hct : ∀ t, 1 ≤ t → t < 9 → c t ≤ 3) (hcs : ∀ t, 13 ≤ t → t < 16 → sh (c t)) (hd : ∀ t, t < 22 → d t < 1000) {I : mI} {J : mJ} (h1 : bodyv I a c) (h2 : cardv I x d) (hl : XL I L lw) : f_X3_weigh kX L a x I J R = some (if barC c d = 0 then ptA c d lw else -100000) := by
  have := barC_le c d
  rw [f_X3_weigh, if_pos hC.1, x_barFrom hC hX hc hd h1 h2, Option.bind_some]
  by_cases h : barC c d = 0
  · rw [if_pos ((nI_z (by omega)).mpr h), if_pos hL.1, x_weighTeeth hL hC hX hct hd h1 h2.b hl, Option.bind_some, x_weighMarks hL hC hX hc hd h1 h2.b hl, Option.bind_some, x_weighSheets hL hC hX hcs hd h1 h2 hl, Option.bind_some, if_pos h, Int32.zero_add, Int32.zero_add, Int32.zero_add]
    rfl
  · rw [if_neg (fun z => h ((nI_z (by omega)).mp z)), if_neg h]
theorem bC_rng {C : Nat → Nat → Nat} {nl nf : Nat} (h : CI C nl nf) {ld : Nat → Nat} {b : Nat} : ∀ {n : Nat}, n ≤ 12 → (∀ t, 1 ≤ t → t < 9 → bC C ld b n t ≤ 3) ∧ (∀ t, 13 ≤ t → t < 16 → sh (bC C ld b n t))
  | 0, _ => ⟨fun t t1 t2 => by
      show (if t = 20 then 120 else 0) ≤ 3
      rw [if_neg (by omega)]; decide, fun t t1 t2 => by
      show sh (if t = 20 then 120 else 0)
      rw [if_neg (by omega)]; exact Or.inl rfl⟩
  | n + 1, hn => by
    obtain ⟨i1, i2⟩ := bC_rng h (ld := ld) (b := b) (n := n) (by omega)
    obtain ⟨-, c1, -, c3, -⟩ := h (12 + n) (by omega)
    have e : ∀ t, t < 16 → lrn (bC C ld b n) (C (12 + n)) t = if bC C ld b n t = 0 then C (12 + n) t else bC C ld b n t := fun t ht => by
      unfold lrn
      rw [if_neg (by omega), if_neg (by omega), if_neg (by omega)]
    refine ⟨fun t t1 t2 => ?_, fun t t1 t2 => ?_⟩
    · simp only [bC]
      split
      · rw [e t (by omega)]
        split
        · exact c1 t t1 t2
        · exact i1 t t1 t2
      · exact i1 t t1 t2
    · simp only [bC]
      split
      · rw [e t (by omega)]
        split
        · exact c3 t t1 (by omega)
        · exact i2 t t1 t2
      · exact i2 t t1 t2
