/-! words: spelt by the class, packed by the reference -/
def wl : List (List Nat) := [[116, 111, 111, 116, 104], [105, 115], [109, 97, 114, 107], [116, 105, 115, 115, 117, 101], [112, 97, 114, 101, 110, 116], [110, 101, 101, 100], [109, 97, 114, 103, 105, 110], [115, 101, 97, 108, 115]]
def wch (w i : Nat) : Nat := (wl.getD w []).getD i 0
def wlen (w : Nat) : Nat := mSl.getD w 0
theorem wch_I : ∀ w, w < 8 → ∀ i, i < 6 → i < wlen w → mSc w (nI i) = nI (wch w i) ∧ 97 ≤ wch w i ∧ wch w i ≤ 122 := by decide
theorem wlen_le : ∀ w, w < 8 → 1 ≤ wlen w ∧ wlen w ≤ 6 := by decide
def pkN (f : Nat → Nat) : Nat → Nat
  | 0 => 0
  | k + 1 => pkN f k * 256 + f k
theorem pkN_pos {f : Nat → Nat} {k : Nat} (h : ∀ i, i < k + 1 → 1 ≤ f i) : 1 ≤ pkN f (k + 1) := by
  have := h k (by omega)
  show 1 ≤ pkN f k * 256 + f k
  omega
theorem pkN_inj {f g : Nat → Nat} : ∀ {k k' : Nat}, (∀ i, i < k → 1 ≤ f i ∧ f i < 256) → (∀ i, i < k' → 1 ≤ g i ∧ g i < 256) → pkN f k = pkN g k' → k = k' ∧ ∀ i, i < k → f i = g i
  | 0, 0, _, _, _ => ⟨rfl, fun i hi => by omega⟩
  | 0, k' + 1, _, h2, e => by
    have := pkN_pos (fun i hi => (h2 i hi).1)
    have e0 : pkN f 0 = 0 := rfl
    omega
  | k + 1, 0, h1, _, e => by
    have := pkN_pos (fun i hi => (h1 i hi).1)
    have e0 : pkN g 0 = 0 := rfl
    omega
  | k + 1, k' + 1, h1, h2, e => by
    have a := h1 k (by omega)
    have b := h2 k' (by omega)
    have e' : pkN f k * 256 + f k = pkN g k' * 256 + g k' := e
    obtain ⟨i1, i2⟩ := pkN_inj (k := k) (k' := k') (fun i hi => h1 i (by omega)) (fun i hi => h2 i (by omega)) (by omega)
    refine ⟨by omega, fun i hi => ?_⟩
    by_cases q : i = k
    · subst q; subst i1; omega
    · exact i2 i (by omega)
theorem pkN_lt {f : Nat → Nat} : ∀ {k : Nat}, (∀ i, i < k → f i < 256) → pkN f k < 256 ^ k
  | 0, _ => by
    show 0 < 256 ^ 0
    decide
  | k + 1, h => by
    have ih := pkN_lt (k := k) (fun i hi => h i (by omega))
    have := h k (by omega)
    show pkN f k * 256 + f k < 256 ^ (k + 1)
    rw [Nat.pow_succ]
    omega
theorem pkN_cg {f g : Nat → Nat} : ∀ {k : Nat}, (∀ i, i < k → f i = g i) → pkN f k = pkN g k
  | 0, _ => rfl
  | k + 1, h => by
    show pkN f k * 256 + f k = pkN g k * 256 + g k
    rw [pkN_cg (k := k) (fun i hi => h i (by omega)), h k (by omega)]
def wN64 (w : Nat) : Nat := pkN (wch w) (wlen w)
theorem wN64_lt : ∀ w, w < 8 → wN64 w < 2 ^ 62 ∧ 0 < wN64 w := by decide
theorem rng_N {lo hi : Nat} {x : Int32} (hl : lo < 2 ^ 31) (hh : hi < 2 ^ 31) (h : rng (nI lo) (nI hi) x = true) : ∃ c, lo ≤ c ∧ c ≤ hi ∧ x = nI c := inr hh hl h
theorem wl_c : ∀ k, k < 64 → ((nI k).toInt64 &&& 63) = lN k := by decide +kernel
theorem wl_sm : ∀ k, k < 64 → (BitVec.ofNat 64 k).smod 64 = BitVec.ofNat 64 k := by decide +kernel
theorem lN_shl (n : Nat) {k : Nat} (hk : k < 64) : lN n <<< ((nI k).toInt64 &&& 63) = lN (n * 2 ^ k) := by
  rw [wl_c k hk]
  apply Int64.toBitVec_inj.mp
  rw [Int64.toBitVec_shiftLeft, show (lN n).toBitVec = BitVec.ofNat 64 n from rfl, show (lN k).toBitVec = BitVec.ofNat 64 k from rfl, show (lN (n * 2 ^ k)).toBitVec = BitVec.ofNat 64 (n * 2 ^ k) from rfl, wl_sm k hk]
  apply BitVec.eq_of_toNat_eq
  rw [BitVec.shiftLeft_eq', BitVec.toNat_shiftLeft, BitVec.toNat_ofNat, BitVec.toNat_ofNat, BitVec.toNat_ofNat, Nat.mod_eq_of_lt (show k < 2 ^ 64 by omega), Nat.shiftLeft_eq, Nat.mul_mod, Nat.mod_mod, ← Nat.mul_mod]
def tc (T : Nat → Int32) (a i : Nat) : Nat := (T (a + i)).toInt.toNat
theorem tc_of {T : Nat → Int32} {a i c : Nat} (hc : c < 2 ^ 31) (h : T (a + i) = nI c) : tc T a i = c := by
  unfold tc
  rw [h, nI_toInt hc]
  omega
def pv (T : Nat → Int32) (a i : Nat) : Int64 := if i ≤ 7 then lN (pkN (tc T a) i) else 0
theorem er_c {T : Nat → Int32} {lo hi n a : Nat} (hl : lo < 2 ^ 31) (hh : hi < 2 ^ 31) {i : Nat} (hi' : a + i < er T (nI lo) (nI hi) n a) : ∃ c, lo ≤ c ∧ c ≤ hi ∧ T (a + i) = nI c := rng_N hl hh (runE_in (fun i => rng (nI lo) (nI hi) (T i)) (n - a) a (a + i) (by omega) hi')
theorem m_word_L {T : Nat → Int32} {n a : Nat} (hn : n ≤ 500) (ha : a ≤ n) (J : mJ) : ∀ (N d i : Nat) (I : mI), a + i + d = n → d < N → (∀ k, k < i → 97 ≤ tc T a k ∧ tc T a k ≤ 122) → I 0 18 = nI n → I 0 19 = nI a → I 0 21 = nI (a + i) → (∀ k, k < n → I 16 k = T k) → f_X9_word_L14 kM 0 J rM N (pv T a i) I = some (pv T a (runE (fun k => rng (nI 97) (nI 122) (T k)) d (a + i) - a), mup I 0 21 (nI (runE (fun k => rng (nI 97) (nI 122) (T k)) d (a + i)))) := by
  intro N
  induction N with
  | zero => intro d i I e1 e2; omega
  | succ N ih =>
    intro d i I e1 e2 hc h1 h2 h3 hT
    rw [f_X9_word_L14, if_pos km0, h1, h2, h3]
    by_cases hd : d = 0
    · subst hd
      rw [if_pos (nI_le (by omega) (by omega))]
      simp only [runE]
      rw [show a + i - a = i by omega, mup_id h3]
    · obtain ⟨d', rfl⟩ : ∃ d', d = d' + 1 := ⟨d - 1, by omega⟩
      rw [if_neg (nI_ge (show a + i < n by omega) (by omega)), rq16, Option.bind_some, if_pos (mx (a + i) km16 (by omega) (by decide)), nI_c (by omega), hT (a + i) (by omega), nI_s1]
      simp only [runE]
      by_cases z1 : T (a + i) < 97
      · rw [if_pos z1, if_neg (show ¬ rng (nI 97) (nI 122) (T (a + i)) = true from fun q => by
          have q : (!decide (T (a + i) < (97 : Int32)) && !decide ((122 : Int32) < T (a + i))) = true := q
          rw [decide_eq_true z1] at q
          exact absurd q (by simp)), show a + i - a = i by omega, mup_id h3]
      · rw [if_neg z1]
        by_cases z2 : 122 < T (a + i)
        · rw [if_pos z2, if_neg (show ¬ rng (nI 97) (nI 122) (T (a + i)) = true from fun q => by
            have q : (!decide (T (a + i) < (97 : Int32)) && !decide ((122 : Int32) < T (a + i))) = true := q
            rw [decide_eq_true z2] at q
            exact absurd q (by simp)), show a + i - a = i by omega, mup_id h3]
        · have zz : rng (nI 97) (nI 122) (T (a + i)) = true := by
            show (!decide (T (a + i) < (97 : Int32)) && !decide ((122 : Int32) < T (a + i))) = true
            rw [decide_eq_false z1, decide_eq_false z2]
            rfl
          obtain ⟨c, c1, c2, c3⟩ := rng_N (by decide) (by decide) zz
          have tcc := tc_of (T := T) (a := a) (i := i) (by omega) c3
          have hc' : ∀ k, k < i + 1 → 97 ≤ tc T a k ∧ tc T a k ≤ 122 := fun k hk => by
            by_cases e : k = i
            · subst e; omega
            · exact hc k (by omega)
          have step := ih d' (i + 1) (mup I 0 21 (nI (a + i + 1))) (by omega) (by omega) hc' (by rw [mup_ne _ _ (by omega)]; exact h1) (by rw [mup_ne _ _ (by omega)]; exact h2) (by rw [mup_eq]; rfl) (fun k hk => by rw [mup_ne _ _ (by omega)]; exact hT k hk)
          rw [mup_twice, show a + (i + 1) = a + i + 1 by omega] at step
          rw [if_neg z2, if_pos zz, nI_minus (show a ≤ a + i by omega), show a + i - a = i by omega]
          by_cases z3 : i < 7
          · rw [if_neg (show ¬ (7 : Int32) ≤ nI i from nI_ge z3 (by decide)), Option.bind_some, Option.bind_some]
            have pl : pkN (tc T a) i < 256 ^ i := pkN_lt (fun k hk => by have := hc k hk; omega)
            have e : (pv T a i <<< (((8 : Int32)).toInt64 &&& 63)) ||| (T (a + i)).toInt64 = pv T a (i + 1) := by
              unfold pv
              rw [if_pos (show i ≤ 7 by omega), if_pos (show i + 1 ≤ 7 by omega), show (8 : Int32) = nI 8 from rfl, lN_shl _ (by decide), c3, nI_l (by omega), Nat.mul_comm, fb_or_sumL _ (show c < 2 ^ 8 by omega)]
              show lN (2 ^ 8 * pkN (tc T a) i + c) = lN (pkN (tc T a) i * 256 + tc T a i)
              rw [tcc, Nat.mul_comm]
            rw [e]
            exact step
          · rw [if_pos (show (7 : Int32) ≤ nI i from nI_le (show 7 ≤ i by omega) (by omega)), Option.bind_some]
            have e : pv T a (i + 1) = 0 := by unfold pv; rw [if_neg (by omega)]
            rw [e] at step
            exact step
theorem x_word_L {R : mR} (hk : R 168 0 = some 167) {T : Nat → Int32} {n a w : Nat} (hw : w < 8) (v2 : Int32) (J : mJ) {I : mI} (hn : n ≤ 500) (ha : a + wlen w ≤ n) (h2 : I 168 2 = nI a) (hT : ∀ i, i < n → I 167 i = T i) : ∀ (N d i : Nat), i + d = wlen w → d < N → f_X5_takeWord_L30 kX 168 w v2 I J R N (nI i) = some (cond (sufA (fun i => decide (T (a + i) ≠ nI (wch w i))) d i) (Sum.inl (false, I)) (Sum.inr ())) := by
  have wl6 := wlen_le w hw
  intro N
  induction N with
  | zero => intro d i e1 e2; omega
  | succ N ih =>
    intro d i e1 e2
    rw [f_X5_takeWord_L30, if_pos hw]
    by_cases hd : d = 0
    · subst hd
      rw [if_pos (show nI (mSl.getD w 0) ≤ nI i from nI_le (show wlen w ≤ i by omega) (by omega))]
      rfl
    · obtain ⟨d', rfl⟩ : ∃ d', d = d' + 1 := ⟨d - 1, by omega⟩
      have step := ih d' (i + 1) (by omega) (by omega)
      have hx : mSx w (nI i) := ⟨hw, by rw [nI_toInt (by omega)]; omega, by rw [nI_toInt (by omega)]; show (i : Int) < ((wlen w : Nat) : Int); omega⟩
      obtain ⟨w1, w2, w3⟩ := wch_I w hw i (by omega) (by omega)
      rw [if_neg (show ¬ nI (mSl.getD w 0) ≤ nI i from nI_ge (show i < wlen w by omega) (show wlen w < 2 ^ 31 by omega)), if_pos q168, hk, Option.bind_some, h2, nI_plus, if_pos (mx (a + i) q167 (by omega) (by decide)), if_pos hx, nI_c (by omega), hT (a + i) (by omega), w1, nI_s1]
      simp only [sufA]
      by_cases z : T (a + i) = nI (wch w i)
      · rw [if_pos z, step, decide_eq_false (show ¬ T (a + i) ≠ nI (wch w i) from fun q => q z), Bool.false_or]
      · rw [if_neg z, decide_eq_true (show T (a + i) ≠ nI (wch w i) from z)]
        rfl
def wok (T : Nat → Int32) (a e w : Nat) : Bool := decide (e - a = wlen w) && !sufA (fun i => decide (T (a + i) ≠ nI (wch w i))) (wlen w) 0
theorem u_word {R : mR} (hk : R 168 0 = some 167) {T : Nat → Int32} {n L' p : Nat} {dw : Nat → Nat} {I0 I0' I I' : mI} (hL : 180 ≤ L') (hT : PT T n I0 I0') (hp : p ≤ n) (hX : PX I0 n L' p dw I) (hM : PM I0' n p dw I') (J J' : mJ) {w : Nat} (hw : w < 8) : ∃ b I1 I1' q, f_X5_takeWord kX 168 w I J R = some (b, I1) ∧ f_X9_takes kM 0 (lN (wN64 w)) I' J' rM = some (b, I1') ∧ q ≤ n ∧ PX I0 n L' q dw I1 ∧ PM I0' n q dw I1' ∧ (b = false → sk T n q = q) ∧ I1 168 3 = I 168 3 ∧ I1' 0 22 = I' 0 22 := by
  obtain ⟨s1, s2⟩ := sk_le (T := T) hp
  have hn := hT.1
  generalize ha : sk T n p = a at *
  obtain ⟨e1, e2⟩ := er_le (T := T) (lo := nI 97) (hi := nI 122) (n := n) (p := a) s2
  have hc : ∀ i, a + i < er T (nI 97) (nI 122) n a → 97 ≤ tc T a i ∧ tc T a i ≤ 122 ∧ T (a + i) = nI (tc T a i) := fun i hi => by
    obtain ⟨c, c1, c2, c3⟩ := er_c (by decide) (by decide) hi
    rw [tc_of (by omega) c3]
    exact ⟨c1, c2, c3⟩
  have X1 := hX.mv hL a
  have M1 := hM.mv a
  have wl6 := wlen_le w hw
  have sk1 : sk T n a = a := by rw [← ha]; exact sk_sk hp
  have xs := x_skip (J := J) hk hn hp hX.2.1 hX.2.2.1 (hX.T hL hT)
  rw [ha] at xs
  have xr := x_run hk hn (nI 97) (nI 122) J s2 X1.2.1 X1.2.2.1 (X1.T hL hT)
  have mbk := m_blanks (J := J') hn hp hM.2.1 hM.2.2.1 (hM.T hT)
  rw [ha] at mbk
  have ml := m_word_L (T := T) hn s2 J' 8192 (n - a) 0 (mup (mup I' 0 19 (nI a)) 0 21 (nI a)) (by omega) (by omega) (fun k hk => by omega) (by rw [mup_ne _ _ (by omega)]; exact M1.2.1) (by rw [mup_ne _ _ (by omega), mup_eq]) (by rw [mup_eq]; rfl) (fun k hk => by rw [mup_ne _ _ (by omega), mup_ne _ _ (by omega)]; exact hM.T hT k hk)
  rw [mup_twice, show a + 0 = a by omega, show runE (fun k => rng (nI 97) (nI 122) (T k)) (n - a) a = er T (nI 97) (nI 122) n a from rfl] at ml
  generalize he : er T (nI 97) (nI 122) n a = e at *
  -- the reference's word
  have mw : f_X9_word kM 0 I' J' rM = some (pv T a (e - a), mup (mup I' 0 19 (nI a)) 0 21 (nI e)) := by
    rw [f_X9_word, if_pos km0, mbk, Option.bind_some, Option.bind_some, mup_eq, show f_X9_word_L14 kM 0 J' rM 8192 0 _ = _ from ml, Option.bind_some]
    have w21 : mup (mup I' 0 19 (nI a)) 0 21 (nI e) 0 21 = nI e := mup_eq _ _ _ _
    have w19 : mup (mup I' 0 19 (nI a)) 0 21 (nI e) 0 19 = nI a := by rw [mup_ne _ _ (by omega), mup_eq]
    simp only [w21, w19, nI_minus e1]
    by_cases z : e - a ≤ 7
    · rw [if_pos (show nI (e - a) ≤ 7 from nI_le z (by decide))]
    · rw [if_neg (show ¬ nI (e - a) ≤ 7 from nI_ge (show 7 < e - a by omega) (by omega))]
      unfold pv
      rw [if_neg z]
  -- the two agree
  have ag : (lg_cmp (pv T a (e - a)) (lN (wN64 w)) = 0) ↔ wok T a e w = true := by
    rw [lg_cmp_eq]
    unfold wok pv
    simp only [Bool.and_eq_true, decide_eq_true_eq, Bool.not_eq_true']
    have wlt := wN64_lt w hw
    constructor
    · intro q
      by_cases z : e - a ≤ 7
      · rw [if_pos z] at q
        have pl : pkN (tc T a) (e - a) < 256 ^ (e - a) := pkN_lt (fun k hk => by have := hc k (by omega); omega)
        have pl2 : (256 : Nat) ^ (e - a) ≤ 256 ^ 7 := Nat.pow_le_pow_right (by decide) z
        have q := (fb_lN_inj (by omega) (by omega)).mp q
        obtain ⟨i1, i2⟩ := pkN_inj (fun i hi => by have := hc i (by omega); omega) (fun i hi => by have := wch_I w hw i (by omega) hi; omega) q
        refine ⟨i1, ?_⟩
        by_cases y : sufA (fun i => decide (T (a + i) ≠ nI (wch w i))) (wlen w) 0 = true
        · obtain ⟨k, k1, k2, k3⟩ := sufA_iff.mp y
          have k3 : T (a + k) ≠ nI (wch w k) := by simpa using k3
          exact absurd (by rw [(hc k (by omega)).2.2, i2 k (by omega)]) k3
        · simpa using y
      · rw [if_neg z] at q
        have : lN 0 = lN (wN64 w) := q
        have := (fb_lN_inj (by decide) (by omega)).mp this
        omega
    · rintro ⟨i1, i2⟩
      rw [if_pos (by omega), i1]
      congr 1
      apply pkN_cg
      intro i hi
      have : T (a + i) = nI (wch w i) := by
        by_cases y : T (a + i) = nI (wch w i)
        · exact y
        · have : sufA (fun i => decide (T (a + i) ≠ nI (wch w i))) (wlen w) 0 = true := sufA_iff.mpr ⟨i, by omega, by omega, by simpa using y⟩
          rw [i2] at this
          exact absurd this (by decide)
      have w2 := wch_I w hw i (by omega) hi
      exact tc_of (by omega) this
  have mt : f_X9_takes kM 0 (lN (wN64 w)) I' J' rM = if wok T a e w = true then some (true, mup (mup (mup I' 0 19 (nI a)) 0 21 (nI e)) 0 19 (nI e)) else some (false, mup (mup I' 0 19 (nI a)) 0 21 (nI e)) := by
    have w21 : mup (mup I' 0 19 (nI a)) 0 21 (nI e) 0 21 = nI e := mup_eq _ _ _ _
    rw [f_X9_takes, if_pos km0, mw, Option.bind_some]
    simp only [w21]
    by_cases z : wok T a e w = true
    · rw [if_pos (ag.mpr z), if_pos z, Option.bind_some]
    · rw [if_neg (fun q => z (ag.mp q)), if_neg z]
  have xt : f_X5_takeWord kX 168 w I J R = if wok T a e w = true then some (true, mup (mup I 168 2 (nI a)) 168 2 (nI e)) else some (false, mup I 168 2 (nI a)) := by
    rw [f_X5_takeWord, if_pos q168, xs, Option.bind_some, show f_X5_endOfRun kX 168 97 122 (mup I 168 2 (nI a)) J R = _ from xr, Option.bind_some, if_pos hw, mup_eq, nI_minus e1]
    unfold wok
    by_cases z : e - a = wlen w
    · rw [if_pos (show nI (e - a) = nI (mSl.getD w 0) by rw [z]; rfl), show f_X5_takeWord_L30 kX 168 w (nI e) (mup I 168 2 (nI a)) J R 8192 0 = _ from x_word_L (T := T) hk hw (nI e) J hn (show a + wlen w ≤ n by omega) (mup_eq _ _ _ _) (fun i hi => by rw [mup_ne _ _ (by omega)]; exact hX.T hL hT i hi) 8192 (wlen w) 0 (by omega) (by omega), Option.bind_some, decide_eq_true z, Bool.true_and]
      cases sufA (fun i => decide (T (a + i) ≠ nI (wch w i))) (wlen w) 0 <;> rfl
    · rw [if_neg (show ¬ nI (e - a) = nI (mSl.getD w 0) from fun q => z ((nI_eq (by omega) (show wlen w < 2 ^ 31 by omega)).mp q)), decide_eq_false z, Bool.false_and, if_neg (by decide)]
  rw [mt, xt]
  by_cases z : wok T a e w = true
  · rw [if_pos z, if_pos z]
    exact ⟨true, _, _, e, rfl, rfl, e2, X1.mv hL e, (M1.we (Or.inl rfl) (nI e)).mv e, fun q => (by cases q), by rw [mup_ne _ _ (by omega), mup_ne _ _ (by omega)], by rw [mup_ne _ _ (by omega), mup_ne _ _ (by omega), mup_ne _ _ (by omega)]⟩
  · rw [if_neg z, if_neg z]
    exact ⟨false, _, _, a, rfl, rfl, s2, X1, M1.we (Or.inl rfl) (nI e), fun _ => sk1, by rw [mup_ne _ _ (by omega)], by rw [mup_ne _ _ (by omega), mup_ne _ _ (by omega)]⟩
