/-! ===== the class's pairing: its loops, one by one ===== -/
theorem ge13 {j : Nat} (h : j < 13) : ¬ (13 : Int32) ≤ nI j := nI_ge h (by decide)
theorem ge13' : (13 : Int32) ≤ nI 13 := nI_le (Nat.le_refl 13) (by decide)
theorem ge12 {j : Nat} (h : j < 12) : ¬ (12 : Int32) ≤ nI j := nI_ge h (by decide)
theorem ge12' : (12 : Int32) ≤ nI 12 := nI_le (Nat.le_refl 12) (by decide)
theorem XR.p {R : mR} {L L' : Nat} (h : XR R L L') : R 131 0 = some 132 ∧ R 131 1 = some 145 ∧ R 131 3 = some 146 ∧ R 131 4 = some 160 ∧ R 131 5 = some 161 ∧ R 131 6 = some 162 ∧ R 131 7 = some 163 ∧ R 131 8 = some 164 ∧ R 131 9 = some 165 :=
  ⟨h.at (by decide) (by decide) rfl, h.at (by decide) (by decide) rfl, h.at (by decide) (by decide) rfl, h.at (by decide) (by decide) rfl, h.at (by decide) (by decide) rfl, h.at (by decide) (by decide) rfl, h.at (by decide) (by decide) rfl, h.at (by decide) (by decide) rfl, h.at (by decide) (by decide) rfl⟩
theorem XR.pts {R : mR} {L L' b : Nat} (h : XR R L L') (hb : b < 12) : R 132 b = some (133 + b) := h.at (by omega) (by omega) (RX_pts b hb)
theorem XR.wor {R : mR} {L L' b : Nat} (h : XR R L L') (hb : b < 13) : R 146 b = some (147 + b) := h.at (by omega) (by omega) (RX_wor b hb)
theorem k131 : kX 131 = (0, 4) := rfl
theorem k132 : kX 132 = (6, 12) := rfl
theorem k145 : kX 145 = (1, 12) := rfl
theorem k146 : kX 146 = (7, 13) := rfl
theorem k160 : kX 160 = (1, 13) := rfl
theorem k161 : kX 161 = (4, 13) := rfl
theorem k162 : kX 162 = (4, 13) := rfl
theorem k163 : kX 163 = (4, 13) := rfl
theorem k164 : kX 164 = (1, 13) := rfl
theorem k165 : kX 165 = (3, 13) := rfl
def far64 : Int64 := 4000000000000000000
theorem h_place_L2 {R : mR} {L L' : Nat} (hR : XR R L L') (v1 : Int32) (I : mI) (J : mJ) : ∀ (N j : Nat), j ≤ 13 → 13 - j < N → f_X4_place_L2 kX 131 v1 R N (nI j) (rowU I 165 0 j (fun _ => mb false)) (rowU J 163 0 j (fun _ => far64)) = some (rowU I 165 0 13 (fun _ => mb false), rowU J 163 0 13 (fun _ => far64)) := by
  obtain ⟨-, -, -, -, -, -, r7, -, r9⟩ := hR.p
  intro N
  induction N with
  | zero => intro j h1 h2; omega
  | succ N ih =>
    intro j h1 h2
    rw [f_X4_place_L2]
    by_cases hj : j = 13
    · subst hj
      rw [if_pos ge13']
    · have hj : j < 13 := by omega
      rw [if_neg (ge13 hj), if_pos k131, r7, Option.bind_some, if_pos (mIx_of k163 hj (by decide)), Option.bind_some, r9, Option.bind_some, if_pos (mIx_of k165 hj (by decide)), Option.bind_some, nI_c (by omega), nI_s1, rowU_s (Nat.zero_le j) rfl, show (4000000000000000000 : Int64) = far64 from rfl, rowU_s (Nat.zero_le j) rfl]
      exact ih (j + 1) (by omega) (by omega)
theorem h_settle_L6 {R : mR} {L L' : Nat} (hR : XR R L L') (I : mI) (J : mJ) : ∀ (N j : Nat), j ≤ 13 → 13 - j < N → f_X4_settle_L6 kX 131 R N (nI j) (rowU I 160 0 j (fun _ => 0)) (rowU (rowU J 161 0 j (fun _ => 0)) 162 0 j (fun _ => 0)) = some (rowU I 160 0 13 (fun _ => 0), rowU (rowU J 161 0 13 (fun _ => 0)) 162 0 13 (fun _ => 0)) := by
  obtain ⟨-, -, -, r4, r5, r6, -, -, -⟩ := hR.p
  intro N
  induction N with
  | zero => intro j h1 h2; omega
  | succ N ih =>
    intro j h1 h2
    rw [f_X4_settle_L6]
    by_cases hj : j = 13
    · subst hj
      rw [if_pos ge13']
    · have hj : j < 13 := by omega
      have e : mup (mup (rowU (rowU J 161 0 j (fun _ => (0 : Int64))) 162 0 j (fun _ => 0)) 161 j 0) 162 j 0 = rowU (rowU J 161 0 (j + 1) (fun _ => (0 : Int64))) 162 0 (j + 1) (fun _ => 0) := by
        have e1 : mup (rowU (rowU J 161 0 j (fun _ => (0 : Int64))) 162 0 j (fun _ => 0)) 161 j 0 = rowU (mup (rowU J 161 0 j (fun _ => (0 : Int64))) 161 j 0) 162 0 j (fun _ => 0) := by
          funext a k
          simp only [mup, rowU]
          by_cases h1 : a = 161 ∧ k = j
          · obtain ⟨rfl, rfl⟩ := h1
            simp
          · simp [h1]
        rw [e1, rowU_s (Nat.zero_le j) rfl, rowU_s (Nat.zero_le j) rfl]
      rw [if_neg (ge13 hj), if_pos k131, r4, Option.bind_some, if_pos (mIx_of k160 hj (by decide)), Option.bind_some, r5, Option.bind_some, if_pos (mIx_of k161 hj (by decide)), Option.bind_some, r6, Option.bind_some, if_pos (mIx_of k162 hj (by decide)), Option.bind_some, nI_c (by omega), nI_s1, rowU_s (Nat.zero_le j) rfl, e]
      exact ih (j + 1) (by omega) (by omega)
theorem h_readOff_L7 {R : mR} {L L' : Nat} (hR : XR R L L') (I : mI) (J : mJ) : ∀ (N j : Nat), j ≤ 12 → 12 - j < N → f_X4_readOff_L7 kX 131 J R N (nI j) (rowU I 145 0 j (fun _ => -1)) = some (rowU I 145 0 12 (fun _ => -1)) := by
  obtain ⟨-, r1, -, -, -, -, -, -, -⟩ := hR.p
  intro N
  induction N with
  | zero => intro j h1 h2; omega
  | succ N ih =>
    intro j h1 h2
    rw [f_X4_readOff_L7]
    by_cases hj : j = 12
    · subst hj
      rw [if_pos ge12']
    · have hj : j < 12 := by omega
      rw [if_neg (ge12 hj), if_pos k131, r1, Option.bind_some, if_pos (mIx_of k145 hj (by decide)), Option.bind_some, nI_c (by omega), nI_s1, rowU_s (Nat.zero_le j) rfl]
      exact ih (j + 1) (by omega) (by omega)
/-- what measuring by a column does to one place: shorter by this row, or as it was -/
def hsl (J : mJ) (r j : Nat) : Int64 := ((-(J (147 + r) j)) - (J 161 r)) - (J 162 j)
def hcd (I : mI) (J : mJ) (r j : Nat) : Bool := decide (I 165 j = 0) && !decide (0 ≤ lg_cmp (hsl J r j) (J 163 j))
theorem h_measure_L9 {R : mR} {L L' : Nat} (hR : XR R L L') (v1 : Int32) (r : Nat) (hr : r < 13) (I : mI) (J : mJ) : ∀ (N j : Nat), 1 ≤ j → j ≤ 13 → 13 - j < N → f_X4_measure_L9 kX 131 v1 (nI r) R N (nI j) (rowU I 164 1 j (fun k => if hcd I J r k = true then v1 else I 164 k)) (rowU J 163 1 j (fun k => if hcd I J r k = true then hsl J r k else J 163 k)) = some (rowU I 164 1 13 (fun k => if hcd I J r k = true then v1 else I 164 k), rowU J 163 1 13 (fun k => if hcd I J r k = true then hsl J r k else J 163 k)) := by
  obtain ⟨-, -, r3, -, r5, r6, r7, r8, r9⟩ := hR.p
  have rw1 := hR.wor hr
  intro N
  induction N with
  | zero => intro j h0 h1 h2; omega
  | succ N ih =>
    intro j h0 h1 h2
    rw [f_X4_measure_L9]
    by_cases hj : j = 13
    · subst hj
      rw [if_pos ge13']
    · have hj : j < 13 := by omega
      have ih' := ih (j + 1) (by omega) (by omega) (by omega)
      rw [if_neg (ge13 hj), if_pos k131, r3, Option.bind_some, if_pos (mIx_of k146 hr (by decide)), nI_c (show r < 2 ^ 31 by omega), rw1, Option.bind_some, if_pos (mIx_of (KX_wor r hr) hj (by decide)), r5, Option.bind_some, if_pos (mIx_of k161 hr (by decide)), r6, Option.bind_some, if_pos (mIx_of k162 hj (by decide)), Option.bind_some, r9, Option.bind_some, if_pos (mIx_of k165 hj (by decide)), nI_c (show j < 2 ^ 31 by omega), nI_s1, r7, r8]
      rw [rowU_ne (show (165 : Nat) ≠ 164 by decide), rowU_ne (show 147 + r ≠ 163 by omega), rowU_ne (show (161 : Nat) ≠ 163 by decide), rowU_ne (show (162 : Nat) ≠ 163 by decide)]
      rw [show ((-(J (147 + r) j)) - (J 161 r)) - (J 162 j) = hsl J r j from rfl]
      by_cases hc : I 165 j = 0
      · rw [if_pos hc, Option.bind_some, if_pos (mIx_of k163 hj (by decide)), rowU_out (show ¬ (163 = 163 ∧ 1 ≤ j ∧ j < j) by omega)]
        by_cases hd : 0 ≤ lg_cmp (hsl J r j) (J 163 j)
        · have hcd0 : hcd I J r j = false := by simp [hcd, hd]
          rw [if_pos hd, rowU_k (a := 164) h0 (by simp [hcd0]), rowU_k (a := 163) h0 (by simp [hcd0])]
          exact ih'
        · have hcd1 : hcd I J r j = true := by simp [hcd, hc, hd]
          rw [if_neg hd, Option.bind_some, Option.bind_some, if_pos (mIx_of k164 hj (by decide)), Option.bind_some, rowU_s (a := 164) h0 (by simp [hcd1]), rowU_s (a := 163) h0 (by simp [hcd1])]
          exact ih'
      · have hcd0 : hcd I J r j = false := by simp [hcd, hc]
        rw [if_neg hc, rowU_k (a := 164) h0 (by simp [hcd0]), rowU_k (a := 163) h0 (by simp [hcd0])]
        exact ih'
theorem h_measure {R : mR} {L L' : Nat} (hR : XR R L L') (c r : Nat) (hc : c < 13) (hr : r < 13) (I : mI) (J : mJ) (hp : I 160 c = nI r) : f_X4_measure kX 131 (nI c) I J R = some (rowU I 164 1 13 (fun k => if hcd I J r k = true then nI c else I 164 k), rowU J 163 1 13 (fun k => if hcd I J r k = true then hsl J r k else J 163 k)) := by
  obtain ⟨-, -, -, r4, -, -, -, -, -⟩ := hR.p
  have h := h_measure_L9 hR (nI c) r hr I J 8192 1 (by decide) (by decide) (by decide)
  rw [rowU_0, rowU_0] at h
  rw [f_X4_measure, if_pos k131, r4, Option.bind_some, if_pos (mIx_of k160 hc (by decide)), nI_c (by omega), hp, show (1 : Int32) = nI 1 from rfl, h, Option.bind_some]
theorem h_nearest_L4 {R : mR} {L L' : Nat} (hR : XR R L L') (I : mI) (J : mJ) : ∀ (N j b : Nat), 1 ≤ j → j ≤ 13 → 13 - j < N → b < j → (b = 0 → ∀ k, 1 ≤ k → k < j → I 165 k ≠ 0) → (1 ≤ b → I 165 b = 0 ∧ ∀ k, 1 ≤ k → k < j → I 165 k = 0 → J 163 b ≤ J 163 k) →
    ∃ b', b' < 13 ∧ f_X4_nearest_L4 kX 131 I J R N (nI b) (nI j) = some (nI b') ∧ (b' = 0 → ∀ k, 1 ≤ k → k < 13 → I 165 k ≠ 0) ∧ (1 ≤ b' → I 165 b' = 0 ∧ ∀ k, 1 ≤ k → k < 13 → I 165 k = 0 → J 163 b' ≤ J 163 k) := by
  obtain ⟨-, -, -, -, -, -, r7, -, r9⟩ := hR.p
  intro N
  induction N with
  | zero => intro j b h0 h1 h2; omega
  | succ N ih =>
    intro j b h0 h1 h2 h3 h4 h5
    rw [f_X4_nearest_L4]
    by_cases hj : j = 13
    · subst hj
      exact ⟨b, h3, by rw [if_pos ge13'], h4, h5⟩
    · have hj : j < 13 := by omega
      rw [if_neg (ge13 hj), if_pos k131, r9, Option.bind_some, if_pos (mIx_of k165 hj (by decide)), nI_c (show j < 2 ^ 31 by omega), nI_s1]
      by_cases hc : I 165 j = 0
      · rw [if_pos hc]
        by_cases hb : b = 0
        · subst hb
          rw [if_pos nI_0]
          refine ih (j + 1) j (by omega) (by omega) (by omega) (by omega) (by omega) (fun _ => ⟨hc, fun k k1 k2 k3 => ?_⟩)
          by_cases hk : k = j
          · rw [hk]; exact Int64.le_refl _
          · exact absurd k3 (h4 rfl k k1 (by omega))
        · rw [if_neg (fun q => hb ((nI_eq (by omega) (by decide)).mp (q.trans nI_0.symm))), r7, Option.bind_some, if_pos (mIx_of k163 hj (by decide)), if_pos (mIx_of k163 (show b < 13 by omega) (by decide)), nI_c (show b < 2 ^ 31 by omega)]
          obtain ⟨g1, g2⟩ := h5 (by omega)
          by_cases hd : 0 ≤ lg_cmp (J 163 j) (J 163 b)
          · rw [if_pos hd]
            have hd' := (lg_cmp_ge _ _).mp hd
            refine ih (j + 1) b (by omega) (by omega) (by omega) (by omega) (fun q => absurd q hb) (fun _ => ⟨g1, fun k k1 k2 k3 => ?_⟩)
            by_cases hk : k = j
            · rw [hk]; exact hd'
            · exact g2 k k1 (by omega) k3
          · rw [if_neg hd]
            have hd' : J 163 j ≤ J 163 b := by
              have := fun q => hd ((lg_cmp_ge _ _).mpr q)
              rcases Int64.le_total (J 163 b) (J 163 j) with q | q
              · exact absurd q this
              · exact q
            refine ih (j + 1) j (by omega) (by omega) (by omega) (by omega) (by omega) (fun _ => ⟨hc, fun k k1 k2 k3 => ?_⟩)
            by_cases hk : k = j
            · rw [hk]; exact Int64.le_refl _
            · exact Int64.le_trans hd' (g2 k k1 (by omega) k3)
      · rw [if_neg hc]
        refine ih (j + 1) b (by omega) (by omega) (by omega) (by omega) (fun q k k1 k2 => ?_) (fun q => ⟨(h5 q).1, fun k k1 k2 k3 => ?_⟩)
        · by_cases hk : k = j
          · rw [hk]; exact hc
          · exact h4 q k k1 (by omega)
        · by_cases hk : k = j
          · rw [hk] at k3; exact absurd k3 hc
          · exact (h5 q).2 k k1 (by omega) k3
theorem h_nearest {R : mR} {L L' : Nat} (hR : XR R L L') (I : mI) (J : mJ) : ∃ b', b' < 13 ∧ f_X4_nearest kX 131 I J R = some (nI b') ∧ (b' = 0 → ∀ k, 1 ≤ k → k < 13 → I 165 k ≠ 0) ∧ (1 ≤ b' → I 165 b' = 0 ∧ ∀ k, 1 ≤ k → k < 13 → I 165 k = 0 → J 163 b' ≤ J 163 k) := by
  obtain ⟨b, h1, h2, h3⟩ := h_nearest_L4 hR I J 8192 1 0 (by decide) (by decide) (by decide) (by decide) (fun _ k k1 k2 => by omega) (fun q => by omega)
  refine ⟨b, h1, ?_, h3⟩
  rw [f_X4_nearest, show (1 : Int32) = nI 1 from rfl, show (0 : Int32) = nI 0 from rfl, h2, Option.bind_some]
/-- prices behind a shift over the columns below c -/
def hsh (J : mJ) (t : Nat → Bool) (p : Nat → Nat) (d : Int64) (c : Nat) (J' : mJ) : Prop := (∀ a k, a ≠ 161 → a ≠ 162 → a ≠ 163 → J' a k = J a k) ∧ (∀ k, J' 163 k = if k < c ∧ t k = false then J 163 k - d else J 163 k) ∧ (∀ k, J' 162 k = if k < c ∧ t k = true then J 162 k - d else J 162 k) ∧ (∀ c', c' < c → t c' = true → J' 161 (p c') = J 161 (p c') + d) ∧ (∀ i, (∀ c', c' < c → t c' = true → p c' ≠ i) → J' 161 i = J 161 i)
theorem h_shift_L2 {R : mR} {L L' : Nat} (hR : XR R L L') (I : mI) (J : mJ) (t : Nat → Bool) (p : Nat → Nat) (d : Int64) (hp : ∀ c, c < 13 → t c = true → I 160 c = nI (p c) ∧ p c < 13) (ht : ∀ c, c < 13 → I 165 c = mb (t c)) (hi : ∀ c c', c < 13 → c' < 13 → t c = true → t c' = true → p c = p c' → c = c') : ∀ (N c : Nat) (J' : mJ), c ≤ 13 → 13 - c < N → hsh J t p d c J' → ∃ J'', f_X4_shiftPrices_L2 kX 131 d I R N (nI c) J' = some J'' ∧ hsh J t p d 13 J'' := by
  obtain ⟨-, -, -, r4, r5, r6, r7, -, r9⟩ := hR.p
  intro N
  induction N with
  | zero => intro j J' h1 h2; omega
  | succ N ih =>
    intro c J' h1 h2 h3
    rw [f_X4_shiftPrices_L2]
    by_cases hj : c = 13
    · subst hj
      exact ⟨J', by rw [if_pos ge13'], h3⟩
    · have hj : c < 13 := by omega
      obtain ⟨g1, g2, g3, g4, g5⟩ := h3
      rw [if_neg (ge13 hj), if_pos k131, r9, Option.bind_some, if_pos (mIx_of k165 hj (by decide)), nI_c (show c < 2 ^ 31 by omega), nI_s1, ht c hj]
      by_cases hc : t c = false
      · rw [if_pos ((mb_0 _).mpr hc), r7, Option.bind_some, if_pos (mIx_of k163 hj (by decide)), Option.bind_some]
        refine ih (c + 1) _ (by omega) (by omega) ⟨fun a k e1 e2 e3 => ?_, fun k => ?_, fun k => ?_, fun c' e1 e2 => ?_, fun i e1 => ?_⟩
        · rw [mup_ne _ _ (fun q => e3 q.1)]; exact g1 a k e1 e2 e3
        · by_cases hk : k = c
          · subst hk
            rw [mup_eq, g2 k, if_neg (by omega), if_pos ⟨by omega, hc⟩]
          · rw [mup_ne _ _ (fun q => hk q.2), g2 k]
            by_cases hk2 : k < c ∧ t k = false
            · rw [if_pos hk2, if_pos ⟨by omega, hk2.2⟩]
            · rw [if_neg hk2, if_neg (fun q => hk2 ⟨by omega, q.2⟩)]
        · rw [mup_ne _ _ (by omega), g3 k]
          by_cases hk2 : k < c ∧ t k = true
          · rw [if_pos hk2, if_pos ⟨by omega, hk2.2⟩]
          · rw [if_neg hk2, if_neg (fun q => hk2 ⟨by
              by_cases hk : k = c
              · rw [hk, hc] at q; exact absurd q.2 (by decide)
              · omega, q.2⟩)]
        · rw [mup_ne _ _ (by omega)]
          by_cases hk : c' = c
          · rw [hk, hc] at e2; exact absurd e2 (by decide)
          · exact g4 c' (by omega) e2
        · rw [mup_ne _ _ (by omega)]
          exact g5 i (fun c' q1 q2 => e1 c' (by omega) q2)
      · have hc : t c = true := by simpa using hc
        obtain ⟨p1, p2⟩ := hp c hj hc
        rw [if_neg (by rw [mb_0, hc]; decide), r5, Option.bind_some, r4, Option.bind_some, if_pos (mIx_of k160 hj (by decide)), p1, if_pos (mIx_of k161 p2 (by decide)), Option.bind_some, r6, Option.bind_some, if_pos (mIx_of k162 hj (by decide)), Option.bind_some, nI_c (show p c < 2 ^ 31 by omega)]
        have hnew : ∀ c', c' < c → t c' = true → p c' ≠ p c := fun c' q1 q2 q3 => by
          have := hi c' c (by omega) hj q2 hc q3
          omega
        refine ih (c + 1) _ (by omega) (by omega) ⟨fun a k e1 e2 e3 => ?_, fun k => ?_, fun k => ?_, fun c' e1 e2 => ?_, fun i e1 => ?_⟩
        · rw [mup_ne _ _ (fun q => e2 q.1), mup_ne _ _ (fun q => e1 q.1)]; exact g1 a k e1 e2 e3
        · rw [mup_ne _ _ (by omega), mup_ne _ _ (by omega), g2 k]
          by_cases hk2 : k < c ∧ t k = false
          · rw [if_pos hk2, if_pos ⟨by omega, hk2.2⟩]
          · rw [if_neg hk2, if_neg (fun q => hk2 ⟨by
              by_cases hk : k = c
              · rw [hk, hc] at q; exact absurd q.2 (by decide)
              · omega, q.2⟩)]
        · by_cases hk : k = c
          · subst hk
            rw [mup_eq, mup_ne _ _ (by omega), g3 k, if_neg (by omega), if_pos ⟨by omega, hc⟩]
          · rw [mup_ne _ _ (fun q => hk q.2), mup_ne _ _ (by omega), g3 k]
            by_cases hk2 : k < c ∧ t k = true
            · rw [if_pos hk2, if_pos ⟨by omega, hk2.2⟩]
            · rw [if_neg hk2, if_neg (fun q => hk2 ⟨by omega, q.2⟩)]
        · rw [mup_ne _ _ (by omega)]
          by_cases hk : c' = c
          · rw [hk, mup_eq, g5 (p c) hnew]
          · rw [mup_ne _ _ (fun q => hnew c' (by omega) e2 q.2)]
            exact g4 c' (by omega) e2
        · rw [mup_ne _ _ (by omega), mup_ne _ _ (fun q => e1 c (by omega) hc q.2.symm)]
          exact g5 i (fun c' q1 q2 => e1 c' (by omega) q2)
theorem h_shift {R : mR} {L L' : Nat} (hR : XR R L L') (I : mI) (J : mJ) (t : Nat → Bool) (p : Nat → Nat) (d : Int64) (hp : ∀ c, c < 13 → t c = true → I 160 c = nI (p c) ∧ p c < 13) (ht : ∀ c, c < 13 → I 165 c = mb (t c)) (hi : ∀ c c', c < 13 → c' < 13 → t c = true → t c' = true → p c = p c' → c = c') : ∃ J'', f_X4_shiftPrices kX 131 d I J R = some J'' ∧ hsh J t p d 13 J'' := by
  obtain ⟨J'', h1, h2⟩ := h_shift_L2 hR I J t p d hp ht hi 8192 0 J (by decide) (by decide) ⟨fun _ _ _ _ _ => rfl, fun k => by rw [if_neg (by omega)], fun k => by rw [if_neg (by omega)], fun c' q => by omega, fun _ _ => rfl⟩
  refine ⟨J'', ?_, h2⟩
  rw [f_X4_shiftPrices, show (0 : Int32) = nI 0 from rfl, h1, Option.bind_some]
