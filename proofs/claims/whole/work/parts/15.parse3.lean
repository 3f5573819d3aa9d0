/-! numbers -/
def dv (T : Nat → Int32) (a : Nat) : Nat → Int32
  | 0 => 0
  | k + 1 => ((10 : Int32) * dv T a k + T (a + k)) - 48
theorem x_num_L {R : mR} (hk : R 168 0 = some 167) {T : Nat → Int32} {n a e : Nat} (v1 v2 : Int32) (J : mJ) {I : mI} (hn : n ≤ 500) (he : e ≤ n) (hT : ∀ i, i < n → I 167 i = T i) : ∀ (N d i : Nat), a + i + d = e → d < N → f_X5_takeNumber_L42 kX 168 v1 v2 (nI e) I J R N (dv T a i) (nI (a + i)) = some (dv T a (e - a)) := by
  intro N
  induction N with
  | zero => intro d i e1 e2; omega
  | succ N ih =>
    intro d i e1 e2
    rw [f_X5_takeNumber_L42]
    by_cases hd : d = 0
    · subst hd
      rw [if_pos (nI_le (by omega) (by omega)), show e - a = i by omega]
    · have step := ih (d - 1) (i + 1) (by omega) (by omega)
      rw [if_neg (nI_ge (show a + i < e by omega) (by omega)), if_pos q168, hk, Option.bind_some, if_pos (mx (a + i) q167 (by omega) (by decide)), Option.bind_some, nI_c (by omega), hT (a + i) (by omega), nI_s1]
      exact step
theorem m_num_L {T : Nat → Int32} {n a : Nat} (hn : n ≤ 500) (ha : a ≤ n) (v1 v2 : Int32) (J : mJ) : ∀ (N d i : Nat) (I : mI), a + i + d = n → d < N → I 0 18 = nI n → I 0 19 = nI a → I 0 22 = dv T a (min i 3) → (∀ k, k < n → I 16 k = T k) → f_X9_takesNumber_L14 kM 0 v1 v2 J rM N (nI (a + i)) I = some (nI (runE (fun k => rng (nI 48) (nI 57) (T k)) d (a + i)), mup I 0 22 (dv T a (min (runE (fun k => rng (nI 48) (nI 57) (T k)) d (a + i) - a) 3))) := by
  intro N
  induction N with
  | zero => intro d i I e1 e2; omega
  | succ N ih =>
    intro d i I e1 e2 h1 h2 h3 hT
    rw [f_X9_takesNumber_L14, if_pos km0, h1, h2]
    by_cases hd : d = 0
    · subst hd
      rw [if_pos (nI_le (by omega) (by omega))]
      simp only [runE]
      rw [show a + i - a = i by omega, mup_id h3]
    · obtain ⟨d', rfl⟩ : ∃ d', d = d' + 1 := ⟨d - 1, by omega⟩
      rw [if_neg (nI_ge (show a + i < n by omega) (by omega)), rq16, Option.bind_some, if_pos (mx (a + i) km16 (by omega) (by decide)), nI_c (by omega), hT (a + i) (by omega), nI_s1]
      simp only [runE]
      by_cases z1 : T (a + i) < 48
      · rw [if_pos z1, if_neg (show ¬ rng (nI 48) (nI 57) (T (a + i)) = true from fun q => by
          have q : (!decide (T (a + i) < (48 : Int32)) && !decide ((57 : Int32) < T (a + i))) = true := q
          rw [decide_eq_true z1] at q
          exact absurd q (by simp)), show a + i - a = i by omega, mup_id h3]
      · rw [if_neg z1]
        by_cases z2 : 57 < T (a + i)
        · rw [if_pos z2, if_neg (show ¬ rng (nI 48) (nI 57) (T (a + i)) = true from fun q => by
            have q : (!decide (T (a + i) < (48 : Int32)) && !decide ((57 : Int32) < T (a + i))) = true := q
            rw [decide_eq_true z2] at q
            exact absurd q (by simp)), show a + i - a = i by omega, mup_id h3]
        · have zz : rng (nI 48) (nI 57) (T (a + i)) = true := by
            show (!decide (T (a + i) < (48 : Int32)) && !decide ((57 : Int32) < T (a + i))) = true
            rw [decide_eq_false z1, decide_eq_false z2]
            rfl
          rw [if_neg z2, if_pos zz, nI_minus (show a ≤ a + i by omega), show a + i - a = i by omega]
          by_cases z3 : i < 3
          · rw [if_neg (show ¬ (3 : Int32) ≤ nI i from nI_ge z3 (by decide)), Option.bind_some, h3, show min i 3 = i by omega]
            have step := ih d' (i + 1) (mup I 0 22 (dv T a (i + 1))) (by omega) (by omega) (by rw [mup_ne _ _ (by omega)]; exact h1) (by rw [mup_ne _ _ (by omega)]; exact h2) (by rw [mup_eq, show min (i + 1) 3 = i + 1 by omega]) (fun k hk => by rw [mup_ne _ _ (by omega)]; exact hT k hk)
            rw [mup_twice] at step
            exact step
          · rw [if_pos (show (3 : Int32) ≤ nI i from nI_le (show 3 ≤ i by omega) (by omega))]
            have step := ih d' (i + 1) I (by omega) (by omega) h1 h2 (by rw [h3, show min i 3 = 3 by omega, show min (i + 1) 3 = 3 by omega]) hT
            exact step
theorem u_num {R : mR} (hk : R 168 0 = some 167) {T : Nat → Int32} {n L' p : Nat} {dw : Nat → Nat} {I0 I0' I I' : mI} (hL : 180 ≤ L') (hT : PT T n I0 I0') (hp : p ≤ n) (hX : PX I0 n L' p dw I) (hM : PM I0' n p dw I') (J J' : mJ) {lo hi : Nat} (hlo : lo < 2 ^ 31) (hhi : hi < 2 ^ 31) : ∃ b I1 I1' q, f_X5_takeNumber kX 168 (nI lo) (nI hi) I J R = some (b, I1) ∧ f_X9_takesNumber kM 0 (nI lo) (nI hi) I' J' rM = some (b, I1') ∧ q ≤ n ∧ PX I0 n L' q dw I1 ∧ PM I0' n q dw I1' ∧ (b = false → sk T n q = q) ∧ (b = true → ∃ v, lo ≤ v ∧ v ≤ hi ∧ I1 168 3 = nI v ∧ I1' 0 22 = nI v) := by
  obtain ⟨s1, s2⟩ := sk_le (T := T) hp
  have hn := hT.1
  generalize ha : sk T n p = a at *
  obtain ⟨e1, e2⟩ := er_le (T := T) (lo := nI 48) (hi := nI 57) (n := n) (p := a) s2
  have X1 := hX.mv hL a
  have M1 := hM.mv a
  have sk1 : sk T n a = a := by rw [← ha]; exact sk_sk hp
  have xs := x_skip (J := J) hk hn hp hX.2.1 hX.2.2.1 (hX.T hL hT)
  rw [ha] at xs
  have xr := x_run hk hn (nI 48) (nI 57) J s2 X1.2.1 X1.2.2.1 (X1.T hL hT)
  have mbk := m_blanks (J := J') hn hp hM.2.1 hM.2.2.1 (hM.T hT)
  rw [ha] at mbk
  have M2 := M1.we (Or.inr rfl) 0
  have ml := m_num_L (T := T) hn s2 (nI lo) (nI hi) J' 8192 (n - a) 0 (mup (mup I' 0 19 (nI a)) 0 22 0) (by omega) (by omega) M2.2.1 M2.2.2.1 (by rw [mup_eq]; rfl) (M2.T hT)
  rw [mup_twice, show a + 0 = a by omega, show runE (fun k => rng (nI 48) (nI 57) (T k)) (n - a) a = er T (nI 48) (nI 57) n a from rfl] at ml
  generalize he : er T (nI 48) (nI 57) n a = e at *
  have M3 := M1.we (Or.inr rfl) (dv T a (min (e - a) 3))
  have mt : f_X9_takesNumber kM 0 (nI lo) (nI hi) I' J' rM = if nI e = nI a then some (false, mup (mup I' 0 19 (nI a)) 0 22 (dv T a (min (e - a) 3))) else if (3 : Int32) < nI (e - a) then some (false, mup (mup I' 0 19 (nI a)) 0 22 (dv T a (min (e - a) 3))) else if mb (!decide (dv T a (min (e - a) 3) < nI lo) && !decide (nI hi < dv T a (min (e - a) 3))) = 0 then some (false, mup (mup I' 0 19 (nI a)) 0 22 (dv T a (min (e - a) 3))) else some (true, mup (mup (mup I' 0 19 (nI a)) 0 22 (dv T a (min (e - a) 3))) 0 19 (nI e)) := by
    rw [f_X9_takesNumber, if_pos km0, mbk, Option.bind_some, Option.bind_some, mup_eq, ml, Option.bind_some]
    have w22 : mup (mup I' 0 19 (nI a)) 0 22 (dv T a (min (e - a) 3)) 0 22 = dv T a (min (e - a) 3) := mup_eq _ _ _ _
    have w19 : mup (mup I' 0 19 (nI a)) 0 22 (dv T a (min (e - a) 3)) 0 19 = nI a := by rw [mup_ne _ _ (by omega), mup_eq]
    simp only [w22, w19, nI_minus e1, m_isIn, Option.bind_some]
  have xt : f_X5_takeNumber kX 168 (nI lo) (nI hi) I J R = if nI e = nI a then some (false, mup I 168 2 (nI a)) else if nI (e - a) ≤ (3 : Int32) then (if mb (!decide (dv T a (e - a) < nI lo) && !decide (nI hi < dv T a (e - a))) = 0 then some (false, mup I 168 2 (nI a)) else some (true, mup (mup (mup I 168 2 (nI a)) 168 3 (dv T a (e - a))) 168 2 (nI e))) else some (false, mup I 168 2 (nI a)) := by
    rw [f_X5_takeNumber, if_pos q168, xs, Option.bind_some, show f_X5_endOfRun kX 168 48 57 (mup I 168 2 (nI a)) J R = _ from xr, Option.bind_some, mup_eq, nI_minus e1, show f_X5_takeNumber_L42 kX 168 (nI lo) (nI hi) (nI e) (mup I 168 2 (nI a)) J R 8192 0 (nI a) = _ from x_num_L hk (nI lo) (nI hi) J hn e2 (X1.T hL hT) 8192 (e - a) 0 (by omega) (by omega), Option.bind_some, x_win, Option.bind_some, Option.bind_some, Option.bind_some]
  rw [mt, xt]
  by_cases z0 : e = a
  · rw [if_pos (by rw [z0]), if_pos (by rw [z0])]
    exact ⟨false, _, _, a, rfl, rfl, s2, X1, M3, fun _ => sk1, fun q => (by cases q)⟩
  · have z0' : ¬ nI e = nI a := fun q => z0 ((nI_eq (by omega) (by omega)).mp q)
    rw [if_neg z0', if_neg z0']
    by_cases z1 : e - a ≤ 3
    · rw [if_pos (show nI (e - a) ≤ (3 : Int32) from nI_le z1 (by decide)), if_neg (show ¬ (3 : Int32) < nI (e - a) from fun q => by have := (nI_lti (show 3 < 2 ^ 31 by decide) (show e - a < 2 ^ 31 by omega)).mp q; omega), show min (e - a) 3 = e - a by omega]
      rw [show min (e - a) 3 = e - a by omega] at M3
      by_cases z2 : (!decide (dv T a (e - a) < nI lo) && !decide (nI hi < dv T a (e - a))) = true
      · rw [z2, imt, imt]
        obtain ⟨v, v1, v2, v3⟩ := inr hhi hlo z2
        exact ⟨true, _, _, e, rfl, rfl, e2, (X1.nu hL _).mv hL e, M3.mv e, fun q => (by cases q), fun _ => ⟨v, v1, v2, by rw [mup_ne _ _ (by omega), mup_eq, v3], by rw [mup_ne _ _ (by omega), mup_eq, v3]⟩⟩
      · have z2 : (!decide (dv T a (e - a) < nI lo) && !decide (nI hi < dv T a (e - a))) = false := by simpa using z2
        rw [z2, imf, imf]
        exact ⟨false, _, _, a, rfl, rfl, s2, X1, M3, fun _ => sk1, fun q => (by cases q)⟩
    · rw [if_neg (show ¬ nI (e - a) ≤ (3 : Int32) from nI_ge (show 3 < e - a by omega) (by omega)), if_pos (show (3 : Int32) < nI (e - a) from (nI_lti (show 3 < 2 ^ 31 by decide) (show e - a < 2 ^ 31 by omega)).mpr (by omega))]
      exact ⟨false, _, _, a, rfl, rfl, s2, X1, M3, fun _ => sk1, fun q => (by cases q)⟩
/-! the end of a statement -/
def mEnd (I : mI) (J : mJ) : Option (Bool × mI) := (f_X9_blanks kM 0 I J rM).bind fun z36 => if (z36 0 19) = (z36 0 18) then some (false, z36) else (rM 0 16).bind fun x39 => if mIx kM x39 2 (z36 0 19) then if (z36 x39 ((z36 0 19)).toNatClampNeg) = (59 : Int32) then (some (mup z36 0 19 ((z36 0 19) + (1 : Int32)))).bind fun I43 => some (true, I43) else some (false, z36) else none
theorem u_end {R : mR} (hk : R 168 0 = some 167) {T : Nat → Int32} {n L' p : Nat} {dw : Nat → Nat} {I0 I0' I I' : mI} (hL : 180 ≤ L') (hT : PT T n I0 I0') (hp : p ≤ n) (hX : PX I0 n L' p dw I) (hM : PM I0' n p dw I') (J J' : mJ) : ∃ b I1 I1' q, f_X5_takeEnd kX 168 I J R = some (b, I1) ∧ mEnd I' J' = some (b, I1') ∧ q ≤ n ∧ PX I0 n L' q dw I1 ∧ PM I0' n q dw I1' ∧ (b = false → sk T n q = q) := by
  obtain ⟨s1, s2⟩ := sk_le (T := T) hp
  have hn := hT.1
  generalize ha : sk T n p = a at *
  have X1 := hX.mv hL a
  have M1 := hM.mv a
  have sk1 : sk T n a = a := by rw [← ha]; exact sk_sk hp
  have xs := x_skip (J := J) hk hn hp hX.2.1 hX.2.2.1 (hX.T hL hT)
  rw [ha] at xs
  have mbk := m_blanks (J := J') hn hp hM.2.1 hM.2.2.1 (hM.T hT)
  rw [ha] at mbk
  have xt : f_X5_takeEnd kX 168 I J R = if nI n ≤ nI a then some (false, mup I 168 2 (nI a)) else if mIx kX 167 2 (nI a) then if (mup I 168 2 (nI a)) 167 (nI a).toNatClampNeg = 59 then some (true, mup (mup I 168 2 (nI a)) 168 2 (nI (a + 1))) else some (false, mup I 168 2 (nI a)) else none := by
    rw [f_X5_takeEnd, if_pos q168, xs, Option.bind_some, X1.2.1, mup_eq, hk, Option.bind_some, Option.bind_some, nI_s1]
  have mt : mEnd I' J' = if nI a = nI n then some (false, mup I' 0 19 (nI a)) else if mIx kM 16 2 (nI a) then if (mup I' 0 19 (nI a)) 16 (nI a).toNatClampNeg = 59 then some (true, mup (mup I' 0 19 (nI a)) 0 19 (nI (a + 1))) else some (false, mup I' 0 19 (nI a)) else none := by
    unfold mEnd
    rw [mbk, Option.bind_some, M1.2.1, mup_eq, rq16, Option.bind_some, Option.bind_some, nI_s1]
  rw [xt, mt]
  by_cases z : a = n
  · rw [if_pos (nI_le (by omega) (by omega)), if_pos (by rw [z])]
    exact ⟨false, _, _, a, rfl, rfl, s2, X1, M1, fun _ => sk1⟩
  · rw [if_neg (nI_ge (show a < n by omega) (by omega)), if_neg (fun q => z ((nI_eq (by omega) (by omega)).mp q)), if_pos (mx a q167 (by omega) (by decide)), if_pos (mx a km16 (by omega) (by decide)), nI_c (by omega), X1.T hL hT a (by omega), M1.T hT a (by omega)]
    by_cases y : T a = 59
    · rw [if_pos y, if_pos y]
      exact ⟨true, _, _, a + 1, rfl, rfl, by omega, X1.mv hL (a + 1), M1.mv (a + 1), fun q => (by cases q)⟩
    · rw [if_neg y, if_neg y]
      exact ⟨false, _, _, a, rfl, rfl, s2, X1, M1, fun _ => sk1⟩
