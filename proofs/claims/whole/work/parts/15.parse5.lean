theorem u_statement {R : mR} {L L' : Nat} (hR : XR R L L') (hk : R 168 0 = some 167) {T : Nat → Int32} {n p : Nat} {dw : Nat → Nat} {I0 I0' I I' : mI} (hT : PT T n I0 I0') (hp : p ≤ n) (hX : PX I0 n L' p dw I) (hM : PM I0' n p dw I') (hw : LI dw) (J J' : mJ) : ∃ b I1 I1' q dw', f_X5_takeStatement kX 168 L' I J R = some (b, I1) ∧ f_X9_statement kM 0 I' J' rM = some (b, I1') ∧ q ≤ n ∧ PX I0 n L' q dw' I1 ∧ PM I0' n q dw' I1' ∧ (b = false → sk T n q = q) ∧ LI dw' := by
  have hL := hR.L.2.1
  obtain ⟨l0, l1, l2, l3, l4, r1, r2, r3, r4⟩ := hR.law.2
  rw [f_X5_takeStatement, if_pos q168, f_X9_statement, if_pos km0]
  obtain ⟨b0, X0, M0, p0, s0, t0, u0, x0, m0, e0, -, -⟩ := u_word hk hL hT hp hX hM J J' (w := 0) (by decide)
  rw [s0, show (500085781608 : Int64) = lN (wN64 0) from rfl, t0, Option.bind_some, Option.bind_some]
  cases b0 with
  | true =>
    rw [if_neg (mbt1 X0), if_neg (mbt1 M0), if_pos l0]
    obtain ⟨b, I1, I1', q, dw', a1, a2, a3, a4, a5, a6, a7⟩ := u_entry hk hL hT u0 x0 m0 hw J J' (c := 0) (len := 4) (lo := 1) (hi := 3) (id := L' + 1) ⟨by omega, by omega⟩ l1 (by decide) (by decide) (by decide) (by decide) (fun I dw pl v a b h => h.tooth a b)
    refine ⟨b, I1, I1', q, dw', ?_, a2, a3, a4, a5, a6, a7⟩
    rw [r1, Option.bind_some]
    show (f_X5_takeEntry kX 168 (L' + 1) (nI 1) (nI 3) X0 J R).bind (fun z => some (z.1, z.2)) = _
    rw [a1, Option.bind_some]
  | false =>
    rw [if_pos (mbf1 X0), if_pos (mbf1 M0)]
    obtain ⟨b2, X2, M2, p2, s2, t2, u2, x2, m2, e2, -, -⟩ := u_word hk hL hT u0 x0 m0 J J' (w := 2) (by decide)
    rw [s2, show (1835102827 : Int64) = lN (wN64 2) from rfl, t2, Option.bind_some, Option.bind_some]
    cases b2 with
    | true =>
      rw [if_neg (mbt1 X2), if_neg (mbt1 M2), if_pos l0]
      obtain ⟨b, I1, I1', q, dw', a1, a2, a3, a4, a5, a6, a7⟩ := u_entry hk hL hT u2 x2 m2 hw J J' (c := 4) (len := 4) (lo := 0) (hi := 3) (id := L' + 2) ⟨by omega, by omega⟩ l2 (by decide) (by decide) (by decide) (by decide) (fun I dw pl v a b h => h.mark b)
      refine ⟨b, I1, I1', q, dw', ?_, a2, a3, a4, a5, a6, a7⟩
      rw [r2, Option.bind_some]
      show (f_X5_takeEntry kX 168 (L' + 2) (nI 0) (nI 3) X2 J R).bind (fun z => some (z.1, z.2)) = _
      rw [a1, Option.bind_some]
    | false =>
      rw [if_pos (mbf1 X2), if_pos (mbf1 M2)]
      obtain ⟨b3, X3, M3, p3, s3, t3, u3, x3, m3, e3, -, -⟩ := u_word hk hL hT u2 x2 m2 J J' (w := 3) (by decide)
      rw [s3, show (127996257334629 : Int64) = lN (wN64 3) from rfl, t3, Option.bind_some, Option.bind_some]
      cases b3 with
      | true =>
        rw [if_neg (mbt1 X3), if_neg (mbt1 M3), if_pos l0]
        obtain ⟨b, I1, I1', q, dw', a1, a2, a3, a4, a5, a6, a7⟩ := u_entry hk hL hT u3 x3 m3 hw J J' (c := 7) (len := 10) (lo := 1) (hi := 9) (id := L' + 3) ⟨by omega, by omega⟩ l3 (by decide) (by decide) (by decide) (by decide) (fun I dw pl v a b h => h.tissue a b)
        refine ⟨b, I1, I1', q, dw', ?_, a2, a3, a4, a5, a6, a7⟩
        rw [r3, Option.bind_some]
        show (f_X5_takeEntry kX 168 (L' + 3) (nI 1) (nI 9) X3 J R).bind (fun z => some (z.1, z.2)) = _
        rw [a1, Option.bind_some]
      | false =>
        rw [if_pos (mbf1 X3), if_pos (mbf1 M3)]
        obtain ⟨b4, X4, M4, p4, s4, t4, u4, x4, m4, e4, -, -⟩ := u_word hk hL hT u3 x3 m3 J J' (w := 4) (by decide)
        rw [s4, show (123563833388660 : Int64) = lN (wN64 4) from rfl, t4, Option.bind_some, Option.bind_some]
        cases b4 with
        | true =>
          rw [if_neg (mbt1 X4), if_neg (mbt1 M4), if_pos l0]
          obtain ⟨b, I1, I1', q, dw', a1, a2, a3, a4, a5, a6, a7⟩ := u_term hk hL l4 hT u4 x4 m4 hw J J' (t := 0) (lo := 0) (hi := 999) (by decide) (by decide) (by decide)
          refine ⟨b, I1, I1', q, dw', ?_, a2, a3, a4, a5, a6, a7⟩
          rw [r4, Option.bind_some]
          show (f_X5_takeTerm kX 168 (L' + 4) (nI 0) (nI 0) (nI 999) X4 J R).bind (fun z => some (z.1, z.2)) = _
          rw [a1, Option.bind_some]
        | false =>
          rw [if_pos (mbf1 X4), if_pos (mbf1 M4)]
          obtain ⟨b5, X5, M5, p5, s5, t5, u5, x5, m5, e5, -, -⟩ := u_word hk hL hT u4 x4 m4 J J' (w := 5) (by decide)
          rw [s5, show (1852138852 : Int64) = lN (wN64 5) from rfl, t5, Option.bind_some, Option.bind_some]
          cases b5 with
          | true =>
            rw [if_neg (mbt1 X5), if_neg (mbt1 M5), if_pos l0]
            obtain ⟨b, I1, I1', q, dw', a1, a2, a3, a4, a5, a6, a7⟩ := u_term hk hL l4 hT u5 x5 m5 hw J J' (t := 1) (lo := 0) (hi := 999) (by decide) (by decide) (by decide)
            refine ⟨b, I1, I1', q, dw', ?_, a2, a3, a4, a5, a6, a7⟩
            rw [r4, Option.bind_some]
            show (f_X5_takeTerm kX 168 (L' + 4) (nI 1) (nI 0) (nI 999) X5 J R).bind (fun z => some (z.1, z.2)) = _
            rw [a1, Option.bind_some]
          | false =>
            rw [if_pos (mbf1 X5), if_pos (mbf1 M5)]
            obtain ⟨b6, X6, M6, p6, s6, t6, u6, x6, m6, e6, -, -⟩ := u_word hk hL hT u5 x5 m5 J J' (w := 6) (by decide)
            rw [s6, show (120265298635118 : Int64) = lN (wN64 6) from rfl, t6, Option.bind_some, Option.bind_some]
            cases b6 with
            | true =>
              rw [if_neg (mbt1 X6), if_neg (mbt1 M6), if_pos l0]
              obtain ⟨b, I1, I1', q, dw', a1, a2, a3, a4, a5, a6, a7⟩ := u_term hk hL l4 hT u6 x6 m6 hw J J' (t := 2) (lo := 0) (hi := 999) (by decide) (by decide) (by decide)
              refine ⟨b, I1, I1', q, dw', ?_, a2, a3, a4, a5, a6, a7⟩
              rw [r4, Option.bind_some]
              show (f_X5_takeTerm kX 168 (L' + 4) (nI 2) (nI 0) (nI 999) X6 J R).bind (fun z => some (z.1, z.2)) = _
              rw [a1, Option.bind_some]
            | false =>
              rw [if_pos (mbf1 X6), if_pos (mbf1 M6)]
              obtain ⟨b7, X7, M7, p7, s7, t7, u7, x7, m7, e7, -, -⟩ := u_word hk hL hT u6 x6 m6 J J' (w := 7) (by decide)
              rw [s7, show (495622122611 : Int64) = lN (wN64 7) from rfl, t7, Option.bind_some, Option.bind_some]
              cases b7 with
              | true =>
                rw [if_neg (mbt1 X7), if_neg (mbt1 M7), if_pos l0]
                obtain ⟨b, I1, I1', q, dw', a1, a2, a3, a4, a5, a6, a7⟩ := u_term hk hL l4 hT u7 x7 m7 hw J J' (t := 3) (lo := 1) (hi := 5) (by decide) (by decide) (by decide)
                refine ⟨b, I1, I1', q, dw', ?_, a2, a3, a4, a5, a6, a7⟩
                rw [r4, Option.bind_some]
                show (f_X5_takeTerm kX 168 (L' + 4) (nI 3) (nI 1) (nI 5) X7 J R).bind (fun z => if mb z.1 = 0 then some (false, z.2) else some (true, z.2)) = _
                rw [a1, Option.bind_some]
                cases b <;> rfl
              | false =>
                rw [if_pos (mbf1 X7), if_pos (mbf1 M7)]
                exact ⟨false, X7, M7, p7, dw, rfl, rfl, u7, x7, m7, e7, hw⟩
