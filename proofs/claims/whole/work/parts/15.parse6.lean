/-! ===== a law's text as a whole ===== -/
def plN (i : Nat) : Nat := if i = 0 then 0 else if i = 1 then 1 else if i = 2 then 4 else if i = 3 then 6 else if i < 8 then 5 else if i < 17 then 3 else if i = 17 then 2 else if i = 18 then 20 else if i = 19 then 5 else 2
def pl0 (a0 : Int32) : Option Int32 := if (4 : Int32) ≤ a0 then if (7 : Int32) < a0 then if (17 : Int32) ≤ a0 then if a0 = (17 : Int32) then some (2 : Int32) else if a0 = (20 : Int32) then some (2 : Int32) else if a0 = (18 : Int32) then some (20 : Int32) else some (5 : Int32) else some (3 : Int32) else some (5 : Int32) else if a0 = 0 then some (0 : Int32) else if a0 = (1 : Int32) then some (1 : Int32) else if a0 = (2 : Int32) then some (4 : Int32) else some (6 : Int32)
theorem pl0_N : ∀ k, k < 21 → pl0 (nI k) = some (nI (plN k)) := by decide
theorem m_plain {k : Nat} (hk : k < 21) (I : mI) (J : mJ) (R : mR) : f_X9_plain kM (nI k) I J R = some (nI (plN k)) := pl0_N k hk
theorem plN_le : ∀ i, i < 21 → plN i ≤ 999 := by decide
theorem x_reset {R : mR} {L : Nat} (hL : isL R L) (I : mI) (J : mJ) : ∃ I1, f_X3_reset kX L I J R = some I1 ∧ XL I1 L plN ∧ ∀ a k, ¬ (L + 1 ≤ a ∧ a ≤ L + 4) → I1 a k = I a k := by
  obtain ⟨l0, l1, l2, l3, l4, r1, r2, r3, r4⟩ := hL
  have L24 : ∀ (I : mI) (N j : Nat), j ≤ 4 → 4 - j < N → f_X3_reset_L24 kX L J R N (nI j) (rowU I (L + 2) 0 j (fun _ => 5)) = some (rowU I (L + 2) 0 4 (fun _ => 5)) := by
    intro I N
    induction N with
    | zero => intro j h1 h2; omega
    | succ N ih =>
      intro j h1 h2
      rw [f_X3_reset_L24]
      by_cases e : j = 4
      · subst e; rw [if_pos (by decide)]
      · rw [if_neg (show ¬ (4 : Int32) ≤ nI j from nI_ge (show j < 4 by omega) (by decide)), if_pos l0, r2, Option.bind_some, if_pos (mx j l2 (by omega) (by decide)), Option.bind_some, nI_c (by omega), rowU_s (Nat.zero_le j) rfl, nI_s1]
        exact ih (j + 1) (by omega) (by omega)
  have L44 : ∀ (I : mI) (N j : Nat), 1 ≤ j → j ≤ 10 → 10 - j < N → f_X3_reset_L44 kX L J R N (nI j) (rowU I (L + 3) 1 j (fun _ => 3)) = some (rowU I (L + 3) 1 10 (fun _ => 3)) := by
    intro I N
    induction N with
    | zero => intro j h0 h1 h2; omega
    | succ N ih =>
      intro j h0 h1 h2
      rw [f_X3_reset_L44]
      by_cases e : j = 10
      · subst e; rw [if_pos (by decide)]
      · rw [if_neg (show ¬ (9 : Int32) < nI j from fun q => by have := (nI_lti (show 9 < 2 ^ 31 by decide) (show j < 2 ^ 31 by omega)).mp q; omega), if_pos l0, r3, Option.bind_some, if_pos (mx j l3 (by omega) (by decide)), Option.bind_some, nI_c (by omega), rowU_s h0 rfl, nI_s1]
        exact ih (j + 1) (by omega) (by omega) (by omega)
  have q24 := L24 (mup (mup (mup I (L + 1) 1 1) (L + 1) 2 4) (L + 1) 3 6) 8192 0 (by decide) (by decide)
  rw [rowU_0] at q24
  have q44 := L44 (rowU (mup (mup (mup I (L + 1) 1 1) (L + 1) 2 4) (L + 1) 3 6) (L + 2) 0 4 (fun _ => 5)) 8192 1 (by decide) (by decide) (by decide)
  rw [rowU_0] at q44
  have c2 : ((2 : Int32)).toNatClampNeg = 2 := rfl
  have c3 : ((3 : Int32)).toNatClampNeg = 3 := rfl
  have i1 : ∀ {a : Nat}, kX a = (1, 4) → mIx kX a 1 (1 : Int32) := fun h => mx 1 h (by decide) (by decide)
  have i2 : ∀ {a : Nat}, kX a = (1, 4) → mIx kX a 1 (2 : Int32) := fun h => mx 2 h (by decide) (by decide)
  have i3 : ∀ {a : Nat}, kX a = (1, 4) → mIx kX a 1 (3 : Int32) := fun h => mx 3 h (by decide) (by decide)
  have i0 : ∀ {a : Nat}, kX a = (1, 4) → mIx kX a 1 (0 : Int32) := fun h => mx 0 h (by decide) (by decide)
  refine ⟨mup (mup (mup (mup (rowU (rowU (mup (mup (mup I (L + 1) 1 1) (L + 1) 2 4) (L + 1) 3 6) (L + 2) 0 4 (fun _ => 5)) (L + 3) 1 10 (fun _ => 3)) (L + 4) 0 2) (L + 4) 1 20) (L + 4) 2 5) (L + 4) 3 2, ?_, ⟨fun i a b => ?_, fun i a => ?_, fun i a b => ?_, fun i a => ?_⟩, fun a k n1 => ?_⟩
  · rw [f_X3_reset, if_pos l0, r1, Option.bind_some, if_pos (i1 l1), Option.bind_some, if_pos (i2 l1), Option.bind_some, if_pos (i3 l1), Option.bind_some, cl1, c2, c3, show f_X3_reset_L24 kX L J R 8192 0 _ = _ from q24, Option.bind_some, show f_X3_reset_L44 kX L J R 8192 1 _ = _ from q44, Option.bind_some, r4, Option.bind_some, if_pos (i0 l4), Option.bind_some, if_pos (i1 l4), Option.bind_some, if_pos (i2 l4), Option.bind_some, if_pos (i3 l4), Option.bind_some, sb_cl0]
  · rw [mup_ne _ _ (by omega), mup_ne _ _ (by omega), mup_ne _ _ (by omega), mup_ne _ _ (by omega), rowU_ne (by omega), rowU_ne (by omega)]
    rcases (show i = 1 ∨ i = 2 ∨ i = 3 by omega) with rfl | rfl | rfl
    · rw [mup_ne _ _ (by omega), mup_ne _ _ (by omega), mup_eq]; rfl
    · rw [mup_ne _ _ (by omega), mup_eq]; rfl
    · rw [mup_eq]; rfl
  · rw [mup_ne _ _ (by omega), mup_ne _ _ (by omega), mup_ne _ _ (by omega), mup_ne _ _ (by omega), rowU_ne (by omega), rowU_in (by omega) a]
    rcases (show i = 0 ∨ i = 1 ∨ i = 2 ∨ i = 3 by omega) with rfl | rfl | rfl | rfl <;> rfl
  · rw [mup_ne _ _ (by omega), mup_ne _ _ (by omega), mup_ne _ _ (by omega), mup_ne _ _ (by omega), rowU_in (by omega) (by omega)]
    have : ∀ i, 1 ≤ i → i ≤ 9 → (3 : Int32) = nI (plN (7 + i)) := by
      intro i a b
      rcases (show i = 1 ∨ i = 2 ∨ i = 3 ∨ i = 4 ∨ i = 5 ∨ i = 6 ∨ i = 7 ∨ i = 8 ∨ i = 9 by omega) with rfl | rfl | rfl | rfl | rfl | rfl | rfl | rfl | rfl <;> rfl
    exact this i a b
  · rcases (show i = 0 ∨ i = 1 ∨ i = 2 ∨ i = 3 by omega) with rfl | rfl | rfl | rfl
    · rw [mup_ne _ _ (by omega), mup_ne _ _ (by omega), mup_ne _ _ (by omega), mup_eq]; rfl
    · rw [mup_ne _ _ (by omega), mup_ne _ _ (by omega), mup_eq]; rfl
    · rw [mup_ne _ _ (by omega), mup_eq]; rfl
    · rw [mup_eq]; rfl
  · rw [mup_ne _ _ (by omega), mup_ne _ _ (by omega), mup_ne _ _ (by omega), mup_ne _ _ (by omega), rowU_ne (by omega), rowU_ne (by omega), mup_ne _ _ (by omega), mup_ne _ _ (by omega), mup_ne _ _ (by omega)]
theorem m_law_L57 (I : mI) (J : mJ) : ∀ (N j : Nat), j ≤ 21 → 21 - j < N → f_X9_law_L57 kM 0 J rM N (nI j) (rowU I 14 21 (21 + j) (fun k => nI (plN (k - 21)))) = some (rowU I 14 21 42 (fun k => nI (plN (k - 21)))) := by
  intro N
  induction N with
  | zero => intro j h1 h2; omega
  | succ N ih =>
    intro j h1 h2
    rw [f_X9_law_L57]
    by_cases e : j = 21
    · subst e; rw [if_pos (by decide)]
    · rw [if_neg (show ¬ (21 : Int32) ≤ nI j from nI_ge (show j < 21 by omega) (by decide)), if_pos km0, rq14, Option.bind_some, m_plain (by omega), Option.bind_some, show (21 : Int32) + nI j = nI (21 + j) from nI_plus 21 j, if_pos (ixM (by omega)), Option.bind_some, nI_c (by omega), rowU_s (by omega) (by rw [show 21 + j - 21 = j by omega]), nI_s1]
      exact ih (j + 1) (by omega) (by omega)
theorem m_law_L163 (I : mI) (v : Int32) (J : mJ) : ∀ (N j : Nat), j ≤ 21 → 21 - j < N → f_X9_law_L163 kM 0 v J rM N (nI j) (rowU I 14 0 j (fun k => I 14 (21 + k))) = some (rowU I 14 0 21 (fun k => I 14 (21 + k))) := by
  intro N
  induction N with
  | zero => intro j h1 h2; omega
  | succ N ih =>
    intro j h1 h2
    rw [f_X9_law_L163]
    by_cases e : j = 21
    · subst e; rw [if_pos (by decide)]
    · rw [if_neg (show ¬ (21 : Int32) ≤ nI j from nI_ge (show j < 21 by omega) (by decide)), if_pos km0, rq14, Option.bind_some, show (21 : Int32) + nI j = nI (21 + j) from nI_plus 21 j, if_pos (ixM (by omega)), if_pos (ixM (by omega)), Option.bind_some, nI_c (show 21 + j < 2 ^ 31 by omega), nI_c (show j < 2 ^ 31 by omega), rowU_s (Nat.zero_le j) (by rw [rowU_out (by omega)]), nI_s1]
      exact ih (j + 1) (by omega) (by omega)
theorem m_law_L17 {n : Nat} (hn : n ≤ 500) (I : mI) (J : mJ) : ∀ (N j : Nat), j ≤ n → n - j < N → f_X9_law_L17 kM 0 (nI n) J rM N (nI j) (rowU I 16 0 j (fun k => (I 15 k).toInt8.toInt32)) = some (rowU I 16 0 n (fun k => (I 15 k).toInt8.toInt32)) := by
  intro N
  induction N with
  | zero => intro j h1 h2; omega
  | succ N ih =>
    intro j h1 h2
    rw [f_X9_law_L17]
    by_cases e : j = n
    · subst e; rw [if_pos (nI_le (Nat.le_refl _) (by omega))]
    · rw [if_neg (nI_ge (show j < n by omega) (by omega)), if_pos km0, rq16, Option.bind_some, rq15, Option.bind_some, if_pos (mx j km15 (by omega) (by decide)), if_pos (mx j km16 (by omega) (by decide)), Option.bind_some, nI_c (by omega), rowU_s (Nat.zero_le j) (by rw [rowU_ne (by omega)]), nI_s1]
      exact ih (j + 1) (by omega) (by omega)
theorem u_loop {R : mR} {L L' : Nat} (hR : XR R L L') (hk : R 168 0 = some 167) {T : Nat → Int32} {n : Nat} {I0 I0' : mI} (hT : PT T n I0 I0') (J J' : mJ) : ∀ (N k p : Nat) (dw : Nat → Nat) (I I' : mI), k ≤ 20 → 21 - k < N → p ≤ n → PX I0 n L' p dw I → PM I0' n p dw I' → LI dw → ∃ (v : Nat) (b : Bool) (I1 : mI) (r : Nat) (c : Bool) (I1' : mI) (q : Nat) (dw' : Nat → Nat), f_X5_read_L34 kX 168 L' J R N (nI k) true I = some (nI v, b, I1) ∧ f_X9_law_L90 kM 0 J' rM N (nI k) true I' = some (nI r, c, I1') ∧ v ≤ 21 ∧ q ≤ n ∧ PX I0 n L' q dw' I1 ∧ PM I0' n q dw' I1' ∧ LI dw' ∧ ((c = true ∧ b = true ∧ r = v ∧ q = n) ∨ (c = false ∧ (b = false ∨ q < n))) := by
  have hL := hR.L.2.1
  have hn := hT.1
  intro N
  induction N with
  | zero => intro k p dw I I' h1 h2; omega
  | succ N ih =>
    intro k p dw I I' h1 h2 h3 hX hM hw
    rw [f_X5_read_L34, imt, if_pos q168, hX.2.1, hX.2.2.1, f_X9_law_L90, imt, if_pos km0, hM.2.1, hM.2.2.1]
    by_cases z : p = n
    · rw [if_pos (nI_le (by omega) (by omega)), if_pos (nI_le (by omega) (by omega))]
      exact ⟨k, true, I, k, true, I', p, dw, rfl, rfl, by omega, h3, hX, hM, hw, Or.inl ⟨rfl, rfl, rfl, z⟩⟩
    · rw [if_neg (nI_ge (show p < n by omega) (by omega)), if_neg (nI_ge (show p < n by omega) (by omega))]
      have hN : ∃ N', N = N' + 1 := ⟨N - 1, by omega⟩
      by_cases y : k = 20
      · subst y
        obtain ⟨N', rfl⟩ := hN
        rw [if_pos (show (20 : Int32) ≤ nI 20 by decide), if_pos (show (20 : Int32) ≤ nI 20 by decide), f_X9_law_L90, imf, nI_s1]
        exact ⟨20, true, I, 21, false, I', p, dw, rfl, rfl, by omega, h3, hX, hM, hw, Or.inr ⟨rfl, Or.inr (by omega)⟩⟩
      · obtain ⟨b, I1, I1', q, dw', a1, a2, a3, a4, a5, a6, a7⟩ := u_statement hR hk hT h3 hX hM hw J J'
        have sq := sk_le (T := T) a3
        have xs := x_skip (J := J) hk hn a3 a4.2.1 a4.2.2.1 (a4.T hL hT)
        rw [if_neg (show ¬ (20 : Int32) ≤ nI k from nI_ge (show k < 20 by omega) (by decide)), if_neg (show ¬ (20 : Int32) ≤ nI k from nI_ge (show k < 20 by omega) (by decide)), a1, a2, Option.bind_some, Option.bind_some, nI_s1]
        dsimp only
        rw [xs, Option.bind_some]
        cases b with
        | true =>
          have mbk := m_blanks (J := J') hn a3 a5.2.1 a5.2.2.1 (a5.T hT)
          rw [imt, mbk, Option.bind_some]
          exact ih (k + 1) (sk T n q) dw' _ _ (by omega) (by omega) sq.2 (a4.mv hL _) (a5.mv _) a7
        | false =>
          obtain ⟨N', rfl⟩ := hN
          rw [imf, f_X5_read_L34, imf, f_X9_law_L90, imf, a6 rfl]
          exact ⟨k + 1, false, _, k + 1, false, _, q, dw', rfl, rfl, by omega, a3, a4.mv hL q, a5, a7, Or.inr ⟨rfl, Or.inl rfl⟩⟩
theorem XR.tx {R : mR} {L L' : Nat} (h : XR R L L') (v : Option Nat) : XR (mup R 168 0 v) L L' := ⟨fun a k n1 n2 => by rw [mup_ne _ _ n2]; exact h.1 a k n1 n2, by rw [mup_ne _ _ (by omega)]; exact h.2.1, by rw [mup_ne _ _ (by omega)]; exact h.2.2.1, h.2.2.2⟩
theorem XR.sw {R : mR} {L L' : Nat} (h : XR R L L') : XR (mup (mup R 0 8 (some L')) 0 9 (some L)) L' L := ⟨fun a k n1 n2 => by rw [mup_ne _ _ (by omega), mup_ne _ _ (by omega)]; exact h.1 a k n1 n2, by rw [mup_ne _ _ (by omega), mup_eq], mup_eq _ _ _ _, by rcases h.2.2.2 with ⟨rfl, rfl⟩ | ⟨rfl, rfl⟩; exact Or.inr ⟨rfl, rfl⟩; exact Or.inl ⟨rfl, rfl⟩⟩
theorem s_law {I : mI} {R : mR} {I' : mI} (h : Sim I R I') (J J' : mJ) (a1 : Int32) : ∃ v I1 R1 I1', f_X8_law kX 0 a1 I J R = some (v, I1, R1) ∧ f_X9_law kM 0 a1 I' J' rM = some (v, I1') ∧ Sim I1 R1 I1' := by
  obtain ⟨nl, nf, C, ld, nm, lw, ns, sb, sm, sp, tl, tb, L, L', h⟩ := h
  have h0 := h
  obtain ⟨⟨g1, g2, g3, g4⟩, ⟨x1, x2, x3, x4, x5⟩, h3, h4, ⟨m1, m2, m3, m4⟩, h6, h7, h8⟩ := h0
  obtain ⟨r0, r1, r2⟩ := x1.t
  have hL := x1.L
  have h45 := x1.2.2.2
  have t5 := h4.2.1
  by_cases z : (!decide (a1 < 0) && !decide (nI tl < a1)) = true
  · obtain ⟨n, -, n1, rfl⟩ := inr (lo := 0) (by omega) (by decide) z
    have hn : n ≤ 500 := by omega
    -- the class before reading
    have R1k : (mup R 168 0 (some 167)) 168 0 = some 167 := mup_eq _ _ _ _
    have hR1 := x1.tx (some 167)
    obtain ⟨I2, c1, c2, c3⟩ := x_reset hR1.law.2 (mup (mup I 168 1 (nI n)) 168 2 0) J
    have hX0 : PX I n L' 0 plN I2 := ⟨fun a k n1 n2 => by rw [c3 a k n2, mup_ne _ _ (by omega), mup_ne _ _ (by omega)], by rw [c3 _ _ (by omega), mup_ne _ _ (by omega), mup_eq], by rw [c3 _ _ (by omega), mup_eq]; rfl, c2⟩
    -- the reference before reading
    have l17 := m_law_L17 hn I' J' 8192 0 (by omega) (by omega)
    rw [rowU_0] at l17
    have l57 := m_law_L57 (mup (mup (mup (rowU I' 16 0 n (fun k => (I' 15 k).toInt8.toInt32)) 0 18 (nI n)) 0 17 0) 0 19 0) J' 8192 0 (by omega) (by omega)
    rw [show 21 + 0 = 21 from rfl, rowU_0] at l57
    have hM0 : PM (mup (rowU I' 16 0 n (fun k => (I' 15 k).toInt8.toInt32)) 0 17 0) n 0 plN (rowU (mup (mup (mup (rowU I' 16 0 n (fun k => (I' 15 k).toInt8.toInt32)) 0 18 (nI n)) 0 17 0) 0 19 0) 14 21 42 (fun k => nI (plN (k - 21)))) := by
      refine ⟨fun a k n1 n2 => ?_, by rw [rowU_ne (by omega), mup_ne _ _ (by omega), mup_ne _ _ (by omega), mup_eq], by rw [rowU_ne (by omega), mup_eq]; rfl, fun i hi => by rw [rowU_in (by omega) (by omega), show 21 + i - 21 = i by omega]⟩
      rw [rowU_out (by omega), mup_ne _ _ (by omega)]
      by_cases e : a = 0 ∧ k = 17
      · rw [e.1, e.2, mup_eq, mup_eq]
      · rw [mup_ne _ _ e, mup_ne _ _ e, mup_ne _ _ (by omega)]
    have hT : PT tb n I (mup (rowU I' 16 0 n (fun k => (I' 15 k).toInt8.toInt32)) 0 17 0) := ⟨hn, fun i hi => (h4.2.2 i (by omega)).1, fun i hi => by rw [mup_ne _ _ (by omega), rowU_in (by omega) hi, h7.2 i (by omega), (h4.2.2 i (by omega)).2]⟩
    have sq := sk_le (T := tb) (n := n) (p := 0) (by omega)
    have xs := x_skip (J := J) R1k hn (by omega) hX0.2.1 hX0.2.2.1 (hX0.T hL.2.1 hT)
    have mbk := m_blanks (J := J') hn (by omega) hM0.2.1 hM0.2.2.1 (hM0.T hT)
    obtain ⟨v, b, I3, r, c, I3', q, dw', d1, d2, d3, d4, d5, d6, d7, d8⟩ := u_loop hR1 R1k hT J J' 8192 0 (sk tb n 0) plN _ _ (by omega) (by omega) sq.2 (hX0.mv hL.2.1 _) (hM0.mv _) plN_le
    have ne1 : ¬ nI q = -1 := nI_nm1 (by omega)
    have hx : f_X8_law kX 0 (nI n) I J R = (if nI q < nI n ∨ b = false then some ((-1 : Int32), mup (mup I3 168 4 (nI q)) 166 1 0, mup R 168 0 (some 167)) else some (nI v, mup (mup I3 168 4 (-1)) 166 1 0, mup (mup (mup R 168 0 (some 167)) 0 8 (some L')) 0 9 (some L))) := by
      have rd : f_X5_read kX 168 167 (nI n) L' I J R = (if nI q < nI n ∨ b = false then some ((-1 : Int32), mup I3 168 4 (nI q), mup R 168 0 (some 167)) else some (nI v, mup I3 168 4 (-1), mup R 168 0 (some 167))) := by
        rw [f_X5_read, if_pos q168, Option.bind_some, if_pos (show (kX 167).1 = 2 from rfl), Option.bind_some, Option.bind_some, if_pos hR1.law.2.1, show imin (nI n) (nI (kX 167).2) = nI n from (by
          show imin (nI n) (nI 500) = nI n
          rw [imin_nI (by omega) (by decide), show min n 500 = n by omega]), c1, Option.bind_some, xs, Option.bind_some, show f_X5_read_L34 kX 168 L' J (mup R 168 0 (some 167)) 8192 0 true _ = _ from d1, Option.bind_some]
        simp only [d5.2.1, d5.2.2.1, Option.bind_some, mup_eq, ne1, if_false, if_true]
        by_cases y : nI q < nI n
        · rw [if_pos y, if_pos (Or.inl y)]
        · rw [if_neg y]
          cases b with
          | true => rw [imt, if_neg (by rintro (w | w); exact y w; cases w)]
          | false => rw [imf, if_pos (Or.inr rfl)]
      have e4 : (mup R 168 0 (some 167)) 0 4 = some 166 := by rw [mup_ne _ _ (by omega)]; exact r0
      have e8 : (mup R 168 0 (some 167)) 0 8 = some L := hR1.2.1
      have e9 : (mup R 168 0 (some 167)) 0 9 = some L' := hR1.2.2.1
      rw [f_X8_law, if_neg (nI_pos (by omega)), if_pos q0, r0, Option.bind_some, if_pos q166, h4.1, if_pos (nI_le n1 (by omega)), r2, Option.bind_some, r1, Option.bind_some, x1.2.2.1, Option.bind_some, if_pos q168, rd]
      by_cases y : nI q < nI n ∨ b = false
      · rw [if_pos y, if_pos y, Option.bind_some]
        simp only [e4, Option.bind_some, q166, if_true]
      · rw [if_neg y, if_neg y, Option.bind_some]
        simp only [e4, Option.bind_some, q166, if_true, nI_nm1 (show v < 2 ^ 31 by omega), if_false, e8, e9]
    have hm : f_X9_law kM 0 (nI n) I' J' rM = (if c = false then some ((-1 : Int32), mup I3' 0 20 (nI q)) else some (nI r, rowU (mup I3' 0 20 (-1)) 14 0 21 (fun k => mup I3' 0 20 (-1) 14 (21 + k)))) := by
      rw [f_X9_law, if_pos km0, m_isIn, Option.bind_some, h7.1, show (!decide (nI n < 0) && !decide (nI tl < nI n)) = true from z, imt, show f_X9_law_L17 kM 0 (nI n) J' rM 8192 0 I' = _ from l17, Option.bind_some, Option.bind_some, Option.bind_some, Option.bind_some, show f_X9_law_L57 kM 0 J' rM 8192 0 _ = _ from l57, Option.bind_some, mbk, Option.bind_some, show f_X9_law_L90 kM 0 J' rM 8192 0 true _ = _ from d2, Option.bind_some]
      cases c with
      | false =>
        rw [if_pos rfl]
        simp only [imf, Option.bind_some, d6.2.2.1]
      | true =>
        rw [if_neg (show ¬ true = false by decide)]
        simp only [imt, Option.bind_some]
        have lc := m_law_L163 (mup I3' 0 20 (-1)) (nI r) J' 8192 0 (by omega) (by omega)
        rw [rowU_0] at lc
        rw [show f_X9_law_L163 kM 0 (nI r) J' rM 8192 0 (mup I3' 0 20 (-1)) = _ from lc, Option.bind_some]
    rw [hx, hm]
    have xf : ∀ (w : Int32) (a k : Nat), a ≠ 168 → ¬ (L' + 1 ≤ a ∧ a ≤ L' + 4) → ¬ (a = 166 ∧ k = 1) → mup (mup I3 168 4 w) 166 1 0 a k = I a k := fun w a k e1 e2 e3 => by rw [mup_ne _ _ e3, mup_ne _ _ (by omega)]; exact d5.1 a k (by omega) e2
    have mf : ∀ (w : Int32) (a k : Nat), a ≠ 16 → ¬ (a = 0 ∧ 17 ≤ k ∧ k ≤ 22) → ¬ (a = 14 ∧ 21 ≤ k) → mup I3' 0 20 w a k = I' a k := fun w a k e1 e2 e3 => by rw [mup_ne _ _ (by omega), d6.1 a k (by omega) e3, mup_ne _ _ (by omega), rowU_ne e1]
    have m17 : ∀ (w : Int32), mup I3' 0 20 w 0 17 = 0 := fun w => by rw [mup_ne _ _ (by omega), d6.1 0 17 (by omega) (by omega), mup_eq]
    rcases d8 with ⟨rfl, rfl, rfl, rfl⟩ | ⟨rfl, d8⟩
    · rw [if_neg (by rintro (w | w); exact i32_lt_irrefl w; cases w), if_neg (by decide)]
      refine ⟨_, _, _, _, rfl, rfl, SimA.s (nl := nl) (nf := nf) (C := C) (ld := ld) (nm := nm) (lw := dw') (ns := ns) (sb := sb) (sm := sm) (sp := sp) (tl := 0) (tb := tb) (L := L') (L' := L) ⟨⟨g1, g2, d7, g4⟩, ⟨hR1.sw, x2.cg (fun a k h => xf _ a k (by omega) (by omega) (by omega)), x3.cg (fun a k h => xf _ a k (by omega) (by omega) (by omega)), x4.cg (fun a k h => xf _ a k (by omega) (by omega) (by omega)), d5.2.2.2.cg (fun a k h => by rw [mup_ne _ _ (by omega), mup_ne _ _ (by omega)])⟩, h3.cg (fun a k h => xf _ a k (by omega) (by omega) (by omega)), ⟨mup_eq _ _ _ _, by omega, fun i hi => by omega⟩, ⟨m1.cg (fun k => by rw [rowU_ne (by omega)]; exact mf _ _ _ (by omega) (by omega) (by omega)), m2.cg (fun a k h => by rw [rowU_ne (by omega)]; exact mf _ _ _ (by omega) (by omega) (by omega)), m3.cg (fun a k h => by rw [rowU_ne (by omega)]; exact mf _ _ _ (by omega) (by omega) (by omega)), fun i hi => by rw [rowU_in (by omega) hi, mup_ne _ _ (by omega)]; exact d6.2.2.2 i hi⟩, h6.cg (by rw [rowU_ne (by omega)]; exact mf _ _ _ (by omega) (by omega) (by omega)) (fun a k h => by rw [rowU_ne (by omega)]; exact mf _ _ _ (by omega) (by omega) (by omega)), ⟨by rw [rowU_ne (by omega)]; exact m17 _, fun i hi => by omega⟩, by rw [mup_ne _ _ (by omega), mup_eq, rowU_ne (by omega), mup_eq]⟩⟩
    · have y : nI q < nI n ∨ b = false := by
        rcases d8 with w | w
        · exact Or.inr w
        · exact Or.inl ((nI_lti (by omega) (by omega)).mpr w)
      rw [if_pos y, if_pos rfl]
      refine ⟨_, _, _, _, rfl, rfl, SimA.s (nl := nl) (nf := nf) (C := C) (ld := ld) (nm := nm) (lw := lw) (ns := ns) (sb := sb) (sm := sm) (sp := sp) (tl := 0) (tb := tb) (L := L) (L' := L') ⟨⟨g1, g2, g3, g4⟩, ⟨hR1, x2.cg (fun a k h => xf _ a k (by omega) (by omega) (by omega)), x3.cg (fun a k h => xf _ a k (by omega) (by omega) (by omega)), x4.cg (fun a k h => xf _ a k (by omega) (by omega) (by omega)), x5.cg (fun a k h => xf _ a k (by omega) (by omega) (by omega))⟩, h3.cg (fun a k h => xf _ a k (by omega) (by omega) (by omega)), ⟨mup_eq _ _ _ _, by omega, fun i hi => by omega⟩, ⟨m1.cg (fun k => mf _ _ _ (by omega) (by omega) (by omega)), m2.cg (fun a k h => mf _ _ _ (by omega) (by omega) (by omega)), m3.cg (fun a k h => mf _ _ _ (by omega) (by omega) (by omega)), m4.cg (fun k hk => mf _ _ _ (by omega) (by omega) (by omega))⟩, h6.cg (mf _ _ _ (by omega) (by omega) (by omega)) (fun a k h => mf _ _ _ (by omega) (by omega) (by omega)), ⟨m17 _, fun i hi => by omega⟩, by rw [mup_ne _ _ (by omega), mup_eq, mup_eq]⟩⟩
  · have z : (!decide (a1 < 0) && !decide (nI tl < a1)) = false := by simpa using z
    refine ⟨-2, I, R, I', ?_, ?_, h.s⟩
    · by_cases y : a1 < 0
      · rw [f_X8_law, if_pos y]
      · have y2 : ¬ a1 ≤ nI tl := fun q => by
          rw [decide_eq_false y, Bool.not_false, Bool.true_and, Bool.not_eq_false', decide_eq_true_eq] at z
          have z := Int32.lt_iff_toInt_lt.mp z
          have q := Int32.le_iff_toInt_le.mp q
          omega
        rw [f_X8_law, if_neg y, if_pos q0, r0, Option.bind_some, if_pos q166, h4.1, if_neg y2]
    · rw [f_X9_law, if_pos km0, m_isIn, Option.bind_some, h7.1, z, imf]
