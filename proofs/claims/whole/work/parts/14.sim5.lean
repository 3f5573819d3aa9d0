/-! ===== seals ===== -/
def on (sb sm : Nat → Nat) (b m i : Nat) : Bool := decide (sb i = b ∧ sm i = m)
def slS (sb sm sp : Nat → Nat) (b m : Nat) : Nat → Nat
  | 0 => 0
  | n + 1 => if on sb sm b m n = true then slS sb sm sp b m n ||| 2 ^ sp n else slS sb sm sp b m n
theorem slS_lt {sb sm sp : Nat → Nat} {b m : Nat} : ∀ {n : Nat}, (∀ i, i < n → sp i < 10) → slS sb sm sp b m n < 2 ^ 10
  | 0, _ => by
    show (0 : Nat) < 2 ^ 10
    decide
  | n + 1, h => by
    have ih := slS_lt (sb := sb) (sm := sm) (b := b) (m := m) (n := n) (fun i hi => h i (by omega))
    have := h n (by omega)
    simp only [slS]
    split
    · exact Nat.or_lt_two_pow ih (Nat.pow_lt_pow_right (by decide) this)
    · exact ih
theorem slS_bit {sb sm sp : Nat → Nat} {b m p : Nat} : ∀ {n : Nat}, (slS sb sm sp b m n).testBit p = true ↔ ∃ i, i < n ∧ on sb sm b m i = true ∧ sp i = p
  | 0 => by
    simp only [slS, Nat.zero_testBit, Bool.false_eq_true, false_iff]
    rintro ⟨i, hi, -⟩
    omega
  | n + 1 => by
    have ih := slS_bit (sb := sb) (sm := sm) (sp := sp) (b := b) (m := m) (p := p) (n := n)
    simp only [slS]
    split
    · rename_i ho
      rw [fb_bit_set, Bool.or_eq_true, ih, decide_eq_true_eq]
      constructor
      · rintro (⟨i, i1, i2, i3⟩ | e)
        · exact ⟨i, by omega, i2, i3⟩
        · exact ⟨n, by omega, ho, e.symm⟩
      · rintro ⟨i, i1, i2, i3⟩
        by_cases e : i = n
        · subst e; exact Or.inr i3.symm
        · exact Or.inl ⟨i, by omega, i2, i3⟩
    · rename_i ho
      rw [ih]
      constructor
      · rintro ⟨i, i1, i2, i3⟩
        exact ⟨i, by omega, i2, i3⟩
      · rintro ⟨i, i1, i2, i3⟩
        refine ⟨i, ?_, i2, i3⟩
        by_cases e : i = n
        · subst e; exact absurd i2 ho
        · omega
theorem slS_ct {sb sm sp : Nat → Nat} {b m : Nat} : ∀ {n : Nat}, (∀ i, i < n → sp i < 10) → (∀ i j, i < n → j < n → sb i = sb j → sm i = sm j → sp i = sp j → i = j) → fb_ct (fun p => (slS sb sm sp b m n).testBit p) 10 = fb_ct (on sb sm b m) n
  | 0, _, _ => by
    rw [show fb_ct (on sb sm b m) 0 = 0 from rfl, fb_ct_zero]
    intro k _
    simp only [slS, Nat.zero_testBit]
  | n + 1, h, hd => by
    have ih := slS_ct (sb := sb) (sm := sm) (sp := sp) (b := b) (m := m) (n := n) (fun i hi => h i (by omega)) (fun i j hi hj => hd i j (by omega) (by omega))
    have hp := h n (by omega)
    rw [fb_ct_succ (on sb sm b m) n]
    by_cases ho : on sb sm b m n = true
    · have e1 : slS sb sm sp b m (n + 1) = slS sb sm sp b m n ||| 2 ^ sp n := by simp only [slS]; rw [if_pos ho]
      have e2 : (slS sb sm sp b m n).testBit (sp n) = false := by
        by_cases q : (slS sb sm sp b m n).testBit (sp n) = true
        · obtain ⟨i, i1, i2, i3⟩ := slS_bit.mp q
          simp only [on, decide_eq_true_eq] at ho i2
          have := hd i n (by omega) (by omega) (by omega) (by omega) i3
          omega
        · simpa using q
      have u := fb_ct_upd (fun p => (slS sb sm sp b m n).testBit p) true hp
      simp only [e2, Bool.false_eq_true, if_false, if_true, Nat.add_zero] at u
      rw [if_pos ho, ← ih, ← u]
      apply fb_ct_cong
      intro k _
      rw [e1, fb_bit_set]
      by_cases e : k = sp n
      · simp [e]
      · simp [e]
    · have e1 : slS sb sm sp b m (n + 1) = slS sb sm sp b m n := by simp only [slS]; rw [if_neg ho]
      rw [e1, ih, if_neg ho, Nat.add_zero]
theorem m_bits (I : mI) (J : mJ) (R : mR) : ∀ (N d x a : Nat), x < 2 ^ d → d ≤ 30 → d < N → f_X9_bits_L4 kM I J R N (nI a) (nI x) = some (nI (a + fb_ct (fun p => x.testBit p) d)) := by
  intro N
  induction N with
  | zero => intro d x a h1 h2 h3; omega
  | succ N ih =>
    intro d x a h1 h2 h3
    have hx : x < 2 ^ 31 := Nat.lt_of_lt_of_le h1 (Nat.pow_le_pow_right (by decide) (by omega))
    rw [f_X9_bits_L4]
    by_cases e : x = 0
    · subst e
      rw [if_pos (show nI 0 ≤ 0 from by decide), show fb_ct (fun p => (0 : Nat).testBit p) d = 0 from fb_ct_zero.mpr (fun k _ => Nat.zero_testBit k), Nat.add_zero]
    · obtain ⟨d', rfl⟩ : ∃ d', d = d' + 1 := ⟨d - 1, by
        have : d ≠ 0 := fun z => by subst z; simp at h1; omega
        omega⟩
      have hx2 : x / 2 < 2 ^ d' := by
        rw [Nat.pow_succ] at h1
        omega
      have sp1 := fb_ct_split (fun p => x.testBit p) 1 d'
      rw [show 1 + d' = d' + 1 by omega] at sp1
      have e1 : fb_ct (fun p => x.testBit p) 1 = x % 2 := by
        show 0 + (if x.testBit 0 = true then 1 else 0) = x % 2
        rw [Nat.testBit_zero]
        rcases Nat.mod_two_eq_zero_or_one x with q | q <;> simp [q]
      have e2 : fb_ct (fun k => x.testBit (1 + k)) d' = fb_ct (fun p => (x / 2).testBit p) d' := fb_ct_cong (fun k _ => by rw [Nat.add_comm, Nat.testBit_succ])
      rw [if_neg (show ¬ nI x ≤ 0 from nI_ge (show 0 < x by omega) hx), show ((1 : Int32) &&& 31) = 1 from rfl, pk_shrN hx 1 1 rfl, show nI x &&& (1 : Int32) = nI (x % 2) from fa_mask x 1, nI_add, show 2 ^ 1 = 2 from rfl, ih d' (x / 2) _ hx2 (by omega) (by omega), sp1]
      rw [e1, e2, Nat.add_assoc]
theorem m_sealed {ns : Nat} {sb sm sp : Nat → Nat} (hS : SI ns sb sm sp) {b m : Nat} (hb : b < 12) (hm : m < 12) (I : mI) (J : mJ) (h : MS I ns sb sm sp) : f_X9_sealed kM 0 (nI b) (nI m) I J rM = some (nI (slS sb sm sp b m ns)) := by
  obtain ⟨s1, s2, -⟩ := hS
  obtain ⟨h1, h2⟩ := h
  have Lp : ∀ (N d k : Nat), k + d = ns → d < N → f_X9_sealed_L5 kM 0 (nI b) (nI m) I J rM N (nI (slS sb sm sp b m k)) (nI k) = some (nI (slS sb sm sp b m ns)) := by
    intro N
    induction N with
    | zero => intro d k e1 e2; omega
    | succ N ih =>
      intro d k e1 e2
      rw [f_X9_sealed_L5, if_pos km0, h1]
      by_cases hd : d = 0
      · have : k = ns := by omega
        subst this
        rw [if_pos (nI_le (Nat.le_refl _) (by omega))]
      · have hk : k < ns := by omega
        have ih' := ih (d - 1) (k + 1) (by omega) (by omega)
        have q := s2 k hk
        rw [if_neg (nI_ge hk (by omega)), rq11, Option.bind_some, if_pos (mx k km11 (by omega) (by decide)), nI_c (show k < 2 ^ 31 by omega), (h2 k hk).1, nI_s1]
        simp only [slS] at ih'
        by_cases e : sb k = b
        · rw [if_pos (by rw [e]), rq12, Option.bind_some, if_pos (mx k km12 (by omega) (by decide)), (h2 k hk).2.1]
          by_cases e' : sm k = m
          · rw [if_pos (by rw [e']), rq13, Option.bind_some, if_pos (mx k km13 (by omega) (by decide)), Option.bind_some, (h2 k hk).2.2, or_bit (by omega)]
            rw [if_pos (show on sb sm b m k = true by simp [on, e, e'])] at ih'
            exact ih'
          · rw [if_neg (fun z => e' ((nI_eq (by omega) (by omega)).mp z))]
            rw [if_neg (show ¬ on sb sm b m k = true by simp [on, e'])] at ih'
            exact ih'
        · rw [if_neg (fun z => e ((nI_eq (by omega) (by omega)).mp z))]
          rw [if_neg (show ¬ on sb sm b m k = true by simp [on, e])] at ih'
          exact ih'
  rw [f_X9_sealed, show f_X9_sealed_L5 kM 0 (nI b) (nI m) I J rM 8192 0 0 = _ from Lp 8192 ns 0 (by omega) (by omega), Option.bind_some]
theorem m_bitsS {ns : Nat} {sb sm sp : Nat → Nat} (hS : SI ns sb sm sp) (b m : Nat) (I : mI) (J : mJ) (R : mR) : f_X9_bits kM (nI (slS sb sm sp b m ns)) I J R = some (nI (fb_ct (on sb sm b m) ns)) := by
  obtain ⟨s1, s2, s3⟩ := hS
  have hp : ∀ i, i < ns → sp i < 10 := fun i hi => (s2 i hi).2.2
  have q := m_bits I J R 8192 10 (slS sb sm sp b m ns) 0 (slS_lt hp) (by decide) (by decide)
  rw [slS_ct hp s3, Nat.zero_add] at q
  rw [f_X9_bits, show f_X9_bits_L4 kM I J R 8192 0 _ = _ from q, Option.bind_some]
theorem q128 : kX 128 = (0, 6) := rfl
theorem q129 : kX 129 = (1, 60) := rfl
theorem q130 : kX 130 = (1, 60) := rfl
theorem XR.s {R : mR} {L L' : Nat} (h : XR R L L') : R 0 2 = some 128 ∧ R 128 0 = some 129 ∧ R 128 1 = some 130 := ⟨h.at (by decide) (by decide) rfl, h.at (by decide) (by decide) rfl, h.at (by decide) (by decide) rfl⟩
theorem x_pairOf (b m : Nat) (I : mI) (J : mJ) (R : mR) : f_X6_pairOf kX (nI b) (nI m) I J R = some (nI (12 * b + m)) := by
  rw [f_X6_pairOf, show (12 : Int32) = nI 12 from rfl, pk_mul, nI_add, Nat.mul_comm]
theorem on_iff {sb sm : Nat → Nat} {b m i : Nat} (h1 : sb i < 12) (h2 : sm i < 12) (hb : b < 12) (hm : m < 12) : nI (12 * sb i + sm i) = nI (12 * b + m) ↔ on sb sm b m i = true := by
  rw [nI_eq (by omega) (by omega)]
  simp only [on, decide_eq_true_eq]
  omega
theorem x_personsOn {R : mR} {L L' : Nat} (hR : XR R L L') {ns : Nat} {sb sm sp : Nat → Nat} (hS : SI ns sb sm sp) {b m : Nat} (hb : b < 12) (hm : m < 12) (I : mI) (J : mJ) (h : XS I ns sb sm sp) : f_X6_personsOn kX 128 (nI b) (nI m) I J R = some (nI (fb_ct (on sb sm b m) ns)) := by
  obtain ⟨s1, s2, -⟩ := hS
  obtain ⟨h1, h2⟩ := h
  obtain ⟨-, r0, r1⟩ := hR.s
  have Lp : ∀ (N d k : Nat), k + d = ns → d < N → f_X6_personsOn_L5 kX 128 (nI b) (nI m) I J R N (nI (fb_ct (on sb sm b m) k)) (nI k) = some (nI (fb_ct (on sb sm b m) ns)) := by
    intro N
    induction N with
    | zero => intro d k e1 e2; omega
    | succ N ih =>
      intro d k e1 e2
      rw [f_X6_personsOn_L5, if_pos q128, h1]
      by_cases hd : d = 0
      · have : k = ns := by omega
        subst this
        rw [if_pos (nI_le (Nat.le_refl _) (by omega))]
      · have hk : k < ns := by omega
        have ih' := ih (d - 1) (k + 1) (by omega) (by omega)
        have q := s2 k hk
        rw [fb_ct_succ] at ih'
        rw [if_neg (nI_ge hk (by omega)), r0, Option.bind_some, if_pos (mx k q129 (by omega) (by decide)), nI_c (show k < 2 ^ 31 by omega), (h2 k hk).1, x_pairOf, Option.bind_some, nI_s1, nI_s1]
        by_cases e : on sb sm b m k = true
        · rw [if_pos ((on_iff q.1 q.2.1 hb hm).mpr e)]
          rw [if_pos e] at ih'
          exact ih'
        · rw [if_neg (fun z => e ((on_iff q.1 q.2.1 hb hm).mp z))]
          rw [if_neg e, Nat.add_zero] at ih'
          exact ih'
  rw [f_X6_personsOn, show f_X6_personsOn_L5 kX 128 (nI b) (nI m) I J R 8192 0 0 = _ from Lp 8192 ns 0 (by omega) (by omega), Option.bind_some]
theorem x_bears {R : mR} {L L' : Nat} (hR : XR R L L') {ns : Nat} {sb sm sp : Nat → Nat} (hS : SI ns sb sm sp) {b m p : Nat} (hb : b < 12) (hm : m < 12) (hp : p < 10) (I : mI) (J : mJ) (h : XS I ns sb sm sp) : f_X6_bears kX 128 (nI b) (nI m) (nI p) I J R = some ((slS sb sm sp b m ns).testBit p) := by
  obtain ⟨s1, s2, -⟩ := hS
  obtain ⟨h1, h2⟩ := h
  obtain ⟨-, r0, r1⟩ := hR.s
  have Lp : ∀ (N d k : Nat), k + d = ns → d < N → f_X6_bears_L3 kX 128 (nI b) (nI m) (nI p) I J R N (nI k) = some (cond (sufA (fun i => on sb sm b m i && decide (sp i = p)) d k) (Sum.inl true) (Sum.inr ())) := by
    intro N
    induction N with
    | zero => intro d k e1 e2; omega
    | succ N ih =>
      intro d k e1 e2
      rw [f_X6_bears_L3, if_pos q128, h1]
      by_cases hd : d = 0
      · subst hd
        rw [if_pos (nI_le (by omega) (by omega))]
        rfl
      · obtain ⟨d', rfl⟩ : ∃ d', d = d' + 1 := ⟨d - 1, by omega⟩
        have hk : k < ns := by omega
        have ih' := ih d' (k + 1) (by omega) (by omega)
        have q := s2 k hk
        rw [if_neg (nI_ge hk (by omega)), r0, Option.bind_some, if_pos (mx k q129 (by omega) (by decide)), nI_c (show k < 2 ^ 31 by omega), (h2 k hk).1, x_pairOf, Option.bind_some, nI_s1]
        simp only [sufA]
        by_cases e : on sb sm b m k = true
        · rw [if_pos ((on_iff q.1 q.2.1 hb hm).mpr e), r1, Option.bind_some, if_pos (mx k q130 (by omega) (by decide)), (h2 k hk).2]
          by_cases e' : sp k = p
          · rw [if_pos (by rw [e']), e, decide_eq_true e']; rfl
          · rw [if_neg (fun z => e' ((nI_eq (by omega) (by omega)).mp z)), ih', e, decide_eq_false e', Bool.and_false, Bool.false_or]
        · rw [if_neg (fun z => e ((on_iff q.1 q.2.1 hb hm).mp z)), ih']
          have e : on sb sm b m k = false := by simpa using e
          rw [e, Bool.false_and, Bool.false_or]
  have e : (slS sb sm sp b m ns).testBit p = sufA (fun i => on sb sm b m i && decide (sp i = p)) ns 0 := by
    rw [Bool.eq_iff_iff, slS_bit, sufA_iff]
    constructor
    · rintro ⟨i, i1, i2, i3⟩
      exact ⟨i, by omega, by omega, by simp [i2, i3]⟩
    · rintro ⟨i, i1, i2, i3⟩
      simp only [Bool.and_eq_true, decide_eq_true_eq] at i3
      exact ⟨i, by omega, i3.1, i3.2⟩
  rw [f_X6_bears, show f_X6_bears_L3 kX 128 (nI b) (nI m) (nI p) I J R 8192 0 = _ from Lp 8192 ns 0 (by omega) (by omega), Option.bind_some, e]
  cases sufA (fun i => on sb sm b m i && decide (sp i = p)) ns 0 <;> rfl
theorem bit_o {S m : Nat} (hS : S < 2 ^ 31) (hm : m < 31) : ((nI S >>> (nI m &&& 31)) &&& (1 : Int32)) = 1 ↔ S.testBit m = true := by
  rw [pk_shrN hS (nI m &&& 31) m (shm m (by omega)), show (1 : Int32) = nI (2 ^ 1 - 1) from rfl, fa_mask, show 2 ^ 1 = 2 from rfl, show 2 - 1 = 1 from rfl, nI_eq (by omega) (by decide), Nat.testBit_eq_decide_div_mod_eq, decide_eq_true_eq]
def pt (f : Nat → Nat) (n v : Nat) : Nat → Nat := fun i => if i = n then v else f i
theorem pt_eq (f : Nat → Nat) (n v : Nat) : pt f n v n = v := if_pos rfl
theorem pt_ne {f : Nat → Nat} {n v i : Nat} (h : i ≠ n) : pt f n v i = f i := if_neg h
theorem s_seal {I : mI} {R : mR} {I' : mI} (h : Sim I R I') (J J' : mJ) (a1 a2 a3 : Int32) : ∃ v I1 I1', f_X8_seal kX 0 a1 a2 a3 I J R = some (v, I1) ∧ f_X9_seal kM 0 a1 a2 a3 I' J' rM = some (v, I1') ∧ Sim I1 R I1' := by
  obtain ⟨nl, nf, C, ld, nm, lw, ns, sb, sm, sp, tl, tb, L, L', h⟩ := h
  have h0 := h
  obtain ⟨⟨g1, g2, g3, g4⟩, ⟨x1, x2, x3, x4, x5⟩, h3, h4, ⟨m1, m2, m3, m4⟩, h6, h7, h8⟩ := h0
  obtain ⟨r0, r1, -, -, r4, -, -, -, -⟩ := x1.b
  obtain ⟨rs0, rs1, rs2⟩ := x1.s
  have hL := x1.L
  have hn := x2.2.2
  rcases pair_case h J J' a1 a2 with ⟨j, m, j1, e1, j2, j3, k1, e2, o1, o2, o3, o4, o5⟩ | ⟨o3, z, w, o1, o2, o4⟩
  · have n1 := nI_nm1 (show ld j < 2 ^ 31 by omega)
    by_cases z : (!decide (a3 < 0) && !decide (9 < a3)) = true
    · obtain ⟨p, -, p2, rfl⟩ := inr (lo := 0) (hi := 9) (by decide) (by decide) z
      subst e2
      have hb : ld j < 12 := by omega
      have hm : m < 12 := by omega
      have hp : p < 10 := by omega
      have be := x_bears x1 g4 hb hm hp I J h3
      have se := m_sealed g4 hb hm I' J' h6
      have sl : slS sb sm sp (ld j) m ns < 2 ^ 10 := slS_lt (fun i hi => (g4.2.1 i hi).2.2)
      have sl : slS sb sm sp (ld j) m ns < 2 ^ 31 := by omega
      by_cases y : (slS sb sm sp (ld j) m ns).testBit p = true
      · refine ⟨-2, I, I', ?_, ?_, h.s⟩
        · simp only [f_X8_seal, q0, if_true, r1, r0, Option.bind_some, q63, q1, o1, o2, n1, if_false, mON_s, x_win, z, imt, rs0, q128, be, y]
        · rw [f_X9_seal, if_pos km0, o3, Option.bind_some, imt, m_isIn, Option.bind_some, z, imt, rq5, Option.bind_some, if_pos o4, o5, se, Option.bind_some, if_pos ((bit_o sl (by omega)).mpr y)]
      · have yf : (slS sb sm sp (ld j) m ns).testBit p = false := by simpa using y
        by_cases hs : ns = 60
        · refine ⟨-3, I, I', ?_, ?_, h.s⟩
          · simp only [f_X8_seal, q0, if_true, r1, r0, Option.bind_some, q63, q1, o1, o2, n1, if_false, mON_s, x_win, z, imt, rs0, q128, be, yf, imf, f_X6_put, h3.1]
            rw [hs, if_neg (by decide), Option.bind_some, imf]
          · rw [f_X9_seal, if_pos km0, o3, Option.bind_some, imt, m_isIn, Option.bind_some, z, imt, rq5, Option.bind_some, if_pos o4, o5, se, Option.bind_some, if_neg (fun q => y ((bit_o sl (by omega)).mp q)), h6.1, hs, if_pos (show nI 60 = 60 from rfl)]
        · have hs : ns < 60 := by have := g4.1; omega
          have g4' : SI (ns + 1) (pt sb ns (ld j)) (pt sm ns m) (pt sp ns p) := by
            obtain ⟨s1, s2, s3⟩ := g4
            refine ⟨by omega, fun i hi => ?_, fun i i' hi hi' a b c => ?_⟩
            · by_cases e : i = ns
              · subst e; rw [pt_eq, pt_eq, pt_eq]; exact ⟨hb, hm, hp⟩
              · rw [pt_ne e, pt_ne e, pt_ne e]; exact s2 i (by omega)
            · have nb : ∀ i, i < ns → sb i = ld j → sm i = m → sp i = p → False := fun i hi a b c => y (slS_bit.mpr ⟨i, hi, by simp [on, a, b], c⟩)
              by_cases e : i = ns
              · by_cases e' : i' = ns
                · omega
                · rw [e, pt_eq, pt_ne e'] at a b c
                  exact absurd c (fun c => nb i' (by omega) a.symm b.symm c.symm)
              · by_cases e' : i' = ns
                · rw [e', pt_eq, pt_ne e] at a b c
                  exact absurd c (fun c => nb i (by omega) a b c)
                · rw [pt_ne e, pt_ne e'] at a b c
                  exact s3 i i' (by omega) (by omega) a b c
          have hX : XS (mup (mup (mup I 129 ns (nI (12 * ld j + m))) 130 ns (nI p)) 128 2 (nI (ns + 1))) (ns + 1) (pt sb ns (ld j)) (pt sm ns m) (pt sp ns p) := by
            refine ⟨mup_eq _ _ _ _, fun i hi => ?_⟩
            by_cases e : i = ns
            · subst e
              rw [pt_eq, pt_eq, pt_eq]
              exact ⟨by rw [mup_ne _ _ (by omega), mup_ne _ _ (by omega), mup_eq], by rw [mup_ne _ _ (by omega), mup_eq]⟩
            · rw [pt_ne e, pt_ne e, pt_ne e]
              exact ⟨by rw [mup_ne _ _ (by omega), mup_ne _ _ (by omega), mup_ne _ _ (by omega)]; exact (h3.2 i (by omega)).1, by rw [mup_ne _ _ (by omega), mup_ne _ _ (by omega), mup_ne _ _ (by omega)]; exact (h3.2 i (by omega)).2⟩
          have hM : MS (mup (mup (mup (mup I' 11 ns (nI (ld j))) 12 ns (nI m)) 13 ns (nI p)) 0 10 (nI (ns + 1))) (ns + 1) (pt sb ns (ld j)) (pt sm ns m) (pt sp ns p) := by
            refine ⟨mup_eq _ _ _ _, fun i hi => ?_⟩
            by_cases e : i = ns
            · subst e
              rw [pt_eq, pt_eq, pt_eq]
              exact ⟨by rw [mup_ne _ _ (by omega), mup_ne _ _ (by omega), mup_ne _ _ (by omega), mup_eq], by rw [mup_ne _ _ (by omega), mup_ne _ _ (by omega), mup_eq], by rw [mup_ne _ _ (by omega), mup_eq]⟩
            · rw [pt_ne e, pt_ne e, pt_ne e]
              exact ⟨by rw [mup_ne _ _ (by omega), mup_ne _ _ (by omega), mup_ne _ _ (by omega), mup_ne _ _ (by omega)]; exact (h6.2 i (by omega)).1, by rw [mup_ne _ _ (by omega), mup_ne _ _ (by omega), mup_ne _ _ (by omega), mup_ne _ _ (by omega)]; exact (h6.2 i (by omega)).2.1, by rw [mup_ne _ _ (by omega), mup_ne _ _ (by omega), mup_ne _ _ (by omega), mup_ne _ _ (by omega)]; exact (h6.2 i (by omega)).2.2⟩
          have c1 := x_personsOn x1 g4' hb hm _ J hX
          have c2 := m_sealed g4' hb hm _ J' hM
          refine ⟨nI (fb_ct (on (pt sb ns (ld j)) (pt sm ns m) (ld j) m) (ns + 1)), _, _, ?_, ?_, SimA.s (nl := nl) (nf := nf) (C := C) (ld := ld) (nm := nm) (lw := lw) (ns := ns + 1) (sb := pt sb ns (ld j)) (sm := pt sm ns m) (sp := pt sp ns p) (tl := tl) (tb := tb) (L := L) (L' := L') ⟨⟨g1, g2, g3, g4'⟩, ⟨x1, x2.cg (fun a k h => by rw [mup_ne _ _ (by omega), mup_ne _ _ (by omega), mup_ne _ _ (by omega)]), x3.cg (fun a k h => by rw [mup_ne _ _ (by omega), mup_ne _ _ (by omega), mup_ne _ _ (by omega)]), x4.cg (fun a k h => by rw [mup_ne _ _ (by omega), mup_ne _ _ (by omega), mup_ne _ _ (by omega)]), x5.cg (fun a k h => by rw [mup_ne _ _ (by omega), mup_ne _ _ (by omega), mup_ne _ _ (by omega)])⟩, hX, h4.cg (fun a k h => by rw [mup_ne _ _ (by omega), mup_ne _ _ (by omega), mup_ne _ _ (by omega)]), ⟨m1.cg (fun k => by rw [mup_ne _ _ (by omega), mup_ne _ _ (by omega), mup_ne _ _ (by omega), mup_ne _ _ (by omega)]), m2.cg (fun a k h => by rw [mup_ne _ _ (by omega), mup_ne _ _ (by omega), mup_ne _ _ (by omega), mup_ne _ _ (by omega)]), m3.cg (fun a k h => by rw [mup_ne _ _ (by omega), mup_ne _ _ (by omega), mup_ne _ _ (by omega), mup_ne _ _ (by omega)]), m4.cg (fun k _ => by rw [mup_ne _ _ (by omega), mup_ne _ _ (by omega), mup_ne _ _ (by omega), mup_ne _ _ (by omega)])⟩, hM, h7.cg (by rw [mup_ne _ _ (by omega), mup_ne _ _ (by omega), mup_ne _ _ (by omega), mup_ne _ _ (by omega)]) (fun k => by rw [mup_ne _ _ (by omega), mup_ne _ _ (by omega), mup_ne _ _ (by omega), mup_ne _ _ (by omega)]), by rw [mup_ne _ _ (by omega), mup_ne _ _ (by omega), mup_ne _ _ (by omega), mup_ne _ _ (by omega), mup_ne _ _ (by omega), mup_ne _ _ (by omega), mup_ne _ _ (by omega)]; exact h8⟩⟩
          · have pu : f_X6_put kX 128 (nI (ld j)) (nI m) (nI p) I J R = some (true, mup (mup (mup I 129 ns (nI (12 * ld j + m))) 130 ns (nI p)) 128 2 (nI (ns + 1))) := by
              rw [f_X6_put, if_pos q128, h3.1, if_pos (show nI ns < 60 from (nI_lti (show ns < 2 ^ 31 by omega) (show 60 < 2 ^ 31 by decide)).mpr hs), rs1, Option.bind_some, x_pairOf, Option.bind_some, if_pos (mx ns q129 hs (by decide)), Option.bind_some, rs2, Option.bind_some, nI_c (show ns < 2 ^ 31 by omega), mup_ne _ _ (show ¬ (128 = 129 ∧ 2 = ns) by omega), h3.1, if_pos (mx ns q130 hs (by decide)), Option.bind_some, Option.bind_some, nI_c (show ns < 2 ^ 31 by omega), mup_ne _ _ (show ¬ (128 = 130 ∧ 2 = ns) by omega), mup_ne _ _ (show ¬ (128 = 129 ∧ 2 = ns) by omega), h3.1, nI_s1]
            simp only [f_X8_seal, q0, if_true, r1, r0, Option.bind_some, q63, q1, o1, o2, n1, if_false, mON_s, x_win, z, imt, rs0, q128, be, yf, imf, pu, c1]
          · rw [f_X9_seal, if_pos km0, o3, Option.bind_some, imt, m_isIn, Option.bind_some, z, imt, rq5, Option.bind_some, if_pos o4, o5, se, Option.bind_some, if_neg (fun q => y ((bit_o sl (by omega)).mp q)), h6.1, if_neg (show ¬ nI ns = 60 from fun q => by have := (nI_eq (show ns < 2 ^ 31 by omega) (show 60 < 2 ^ 31 by decide)).mp q; omega), rq11, Option.bind_some, if_pos (mx ns km11 hs (by decide)), Option.bind_some, rq12, Option.bind_some, nI_c (show ns < 2 ^ 31 by omega), mup_ne _ _ (show ¬ (0 = 11 ∧ 10 = ns) by omega), h6.1, if_pos (mx ns km12 hs (by decide)), Option.bind_some, rq13, Option.bind_some, nI_c (show ns < 2 ^ 31 by omega), mup_ne _ _ (show ¬ (0 = 12 ∧ 10 = ns) by omega), mup_ne _ _ (show ¬ (0 = 11 ∧ 10 = ns) by omega), h6.1, if_pos (mx ns km13 hs (by decide)), Option.bind_some, Option.bind_some, nI_c (show ns < 2 ^ 31 by omega), mup_ne _ _ (show ¬ (0 = 13 ∧ 10 = ns) by omega), mup_ne _ _ (show ¬ (0 = 12 ∧ 10 = ns) by omega), mup_ne _ _ (show ¬ (0 = 11 ∧ 10 = ns) by omega), h6.1, nI_s1, c2, Option.bind_some, m_bitsS g4', Option.bind_some]
    · have z : (!decide (a3 < 0) && !decide (9 < a3)) = false := by simpa using z
      refine ⟨-1, I, I', ?_, ?_, h.s⟩
      · simp only [f_X8_seal, q0, if_true, r1, r0, Option.bind_some, q63, q1, o1, o2, n1, if_false, mON_s, x_win, z, imf]
      · simp only [f_X9_seal, km0, if_true, o3, Option.bind_some, imt, m_isIn, z, imf]
  · refine ⟨-1, I, I', ?_, ?_, h.s⟩
    · rcases o4 with rfl | ⟨o4, rfl⟩
      · simp only [f_X8_seal, q0, if_true, r1, r0, Option.bind_some, q63, q1, o1]
      · simp only [f_X8_seal, q0, if_true, r1, r0, Option.bind_some, q63, q1, o1, o2, o4, if_false, mON_n]
    · simp only [f_X9_seal, km0, if_true, o3, Option.bind_some, imf]
