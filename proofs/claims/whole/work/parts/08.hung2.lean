/-! ===== the method itself, over whole numbers ===== -/
def psl (w : Nat → Nat → Int) (u v : Nat → Int) (i j : Nat) : Int := -(w i j) - u i - v j
/-- between two rows: r rows are placed -/
def pB (w : Nat → Nat → Int) (r : Nat) (p : Nat → Nat) (u v : Nat → Int) : Prop :=
  (∀ j, 1 ≤ j → j < 13 → p j ≤ r) ∧
  (∀ j k, 1 ≤ j → j < 13 → 1 ≤ k → k < 13 → p j ≠ 0 → p j = p k → j = k) ∧
  (∀ i, 1 ≤ i → i ≤ r → ∃ j, 1 ≤ j ∧ j < 13 ∧ p j = i) ∧
  (∀ i j, 1 ≤ i → i ≤ r → 1 ≤ j → j < 13 → 0 ≤ psl w u v i j) ∧
  (∀ j, 1 ≤ j → j < 13 → p j ≠ 0 → psl w u v (p j) j = 0) ∧
  (∀ j, 1 ≤ j → j < 13 → v j ≤ 0 ∧ (p j = 0 → v j = 0)) ∧
  (∀ i, r < i → i < 13 → u i = 0) ∧
  (∃ j, 1 ≤ j ∧ j < 13 ∧ v j = 0)
/-- while row r + 1 is placed: s columns are reached, x is next -/
def pV (w : Nat → Nat → Int) (r s x : Nat) (p : Nat → Nat) (t : Nat → Bool) (q rk : Nat → Nat) (u v gp : Nat → Int) : Prop :=
  (p 0 = r + 1 ∧ (∀ j, 1 ≤ j → j < 13 → p j ≤ r)) ∧
  (∀ j k, 1 ≤ j → j < 13 → 1 ≤ k → k < 13 → p j ≠ 0 → p j = p k → j = k) ∧
  (∀ i, 1 ≤ i → i ≤ r → ∃ j, 1 ≤ j ∧ j < 13 ∧ p j = i) ∧
  (t 0 = true ∧ ∀ j, j < 13 → t j = true → p j ≠ 0) ∧
  (1 ≤ x ∧ x < 13 ∧ t x = false ∧ gp x = 0) ∧
  (∀ j, 1 ≤ j → j < 13 → q j < 13 ∧ t (q j) = true ∧ (t j = true → psl w u v (p (q j)) j = 0 ∧ rk (q j) < rk j) ∧ (t j = false → psl w u v (p (q j)) j = gp j)) ∧
  (∀ j k, 1 ≤ j → j < 13 → t j = false → k < 13 → t k = true → gp j ≤ psl w u v (p k) j) ∧
  (∀ j, 1 ≤ j → j < 13 → t j = false → 0 ≤ gp j) ∧
  ((∀ j, j < 13 → t j = true → rk j < s) ∧ fb_ct t 13 = s) ∧
  (∀ i j, 1 ≤ i → i ≤ r + 1 → 1 ≤ j → j < 13 → 0 ≤ psl w u v i j) ∧
  (∀ j, 1 ≤ j → j < 13 → p j ≠ 0 → psl w u v (p j) j = 0) ∧
  (∀ j, 1 ≤ j → j < 13 → v j ≤ 0 ∧ (p j = 0 → v j = 0)) ∧
  (-500000000000000000 ≤ u (r + 1) ∧ ∀ i, r + 1 < i → i < 13 → u i = 0)
theorem p_iter {w : Nat → Nat → Int} {r s x : Nat} {p : Nat → Nat} {t : Nat → Bool} {q rk : Nat → Nat} {u v gp : Nat → Int} (hV : pV w r s x p t q rk u v gp) (hx : p x ≠ 0) {x' : Nat} {u' v' g1 g2 : Nat → Int} {q1 : Nat → Nat}
    (hg1 : ∀ j, 1 ≤ j → j < 13 → g1 j = if (if j = x then true else t j) = false ∧ psl w u v (p x) j < gp j then psl w u v (p x) j else gp j)
    (hq1 : ∀ j, 1 ≤ j → j < 13 → q1 j = if (if j = x then true else t j) = false ∧ psl w u v (p x) j < gp j then x else q j)
    (hx1 : 1 ≤ x') (hx2 : x' < 13) (hx3 : (if x' = x then true else t x') = false) (hx4 : ∀ k, 1 ≤ k → k < 13 → (if k = x then true else t k) = false → g1 x' ≤ g1 k)
    (hu1 : ∀ j, j < 13 → (if j = x then true else t j) = true → u' (p j) = u (p j) + g1 x') (hu2 : ∀ i, (∀ j, j < 13 → (if j = x then true else t j) = true → p j ≠ i) → u' i = u i)
    (hv : ∀ j, 1 ≤ j → j < 13 → v' j = if (if j = x then true else t j) = true then v j - g1 x' else v j)
    (hg2 : ∀ j, 1 ≤ j → j < 13 → g2 j = if (if j = x then true else t j) = false then g1 j - g1 x' else g1 j) :
    pV w r (s + 1) x' p (fun j => if j = x then true else t j) q1 (fun j => if j = x then s else rk j) u' v' g2 := by
  obtain ⟨⟨a1, a2⟩, a3, a4, ⟨b1, b2⟩, ⟨c1, c2, c3, c4⟩, d1, d2, d3, ⟨e1, e2⟩, f1, f2, f3, f4, f5⟩ := hV
  generalize ht : (fun j => if j = x then true else t j) = t' at *
  have tt : ∀ j, (if j = x then true else t j) = t' j := fun j => by rw [← ht]
  simp only [tt] at hg1 hq1 hx3 hx4 hu1 hu2 hv hg2
  have tx : t' x = true := by rw [← tt]; simp
  have tn : ∀ j, j ≠ x → t' j = t j := fun j h => by rw [← tt]; simp [h]
  have tup : ∀ j, t j = true → t' j = true := fun j h => by
    by_cases hj : j = x
    · rw [hj]; exact tx
    · rw [tn j hj]; exact h
  have tdn : ∀ j, t' j = false → t j = false ∧ j ≠ x := fun j h => by
    have hj : j ≠ x := fun e => by rw [e, tx] at h; cases h
    exact ⟨by rw [← tn j hj]; exact h, hj⟩
  have px : 1 ≤ p x ∧ p x ≤ r := ⟨by omega, a2 x c1 c2⟩
  have sx : ∀ j, 1 ≤ j → j < 13 → 0 ≤ psl w u v (p x) j := fun j h1 h2 => f1 (p x) j px.1 (by omega) h1 h2
  have g1le : ∀ j, 1 ≤ j → j < 13 → g1 j ≤ gp j := fun j h1 h2 => by
    rw [hg1 j h1 h2]
    split
    · rename_i h; omega
    · exact Int.le_refl _
  have g1sx : ∀ j, 1 ≤ j → j < 13 → t' j = false → g1 j ≤ psl w u v (p x) j := fun j h1 h2 h3 => by
    rw [hg1 j h1 h2]
    split
    · exact Int.le_refl _
    · rename_i h
      rcases Int.lt_or_le (psl w u v (p x) j) (gp j) with h4 | h4
      · exact absurd ⟨h3, h4⟩ h
      · exact h4
  have g1nn : ∀ j, 1 ≤ j → j < 13 → t' j = false → 0 ≤ g1 j := fun j h1 h2 h3 => by
    rw [hg1 j h1 h2]
    split
    · exact sx j h1 h2
    · exact d3 j h1 h2 (tdn j h3).1
  have dn := g1nn x' hx1 hx2 hx3
  have tree : ∀ j k, 1 ≤ j → j < 13 → t' j = false → k < 13 → t' k = true → g1 j ≤ psl w u v (p k) j := fun j k h1 h2 h3 h4 h5 => by
    by_cases hk : k = x
    · rw [hk]; exact g1sx j h1 h2 h3
    · rw [tn k hk] at h5
      exact Int.le_trans (g1le j h1 h2) (d2 j k h1 h2 (tdn j h3).1 h4 h5)
  have pin : ∀ k j, k < 13 → t' k = true → 1 ≤ j → j < 13 → t' j = true → psl w u' v' (p k) j = psl w u v (p k) j := fun k j h1 h2 h3 h4 h5 => by
    have e3 := hv j h3 h4
    rw [if_pos h5] at e3
    simp only [psl]
    rw [hu1 k h1 h2, e3]
    omega
  have pout : ∀ k j, k < 13 → t' k = true → 1 ≤ j → j < 13 → t' j = false → psl w u' v' (p k) j = psl w u v (p k) j - g1 x' := fun k j h1 h2 h3 h4 h5 => by
    have e3 := hv j h3 h4
    rw [if_neg (by rw [h5]; decide)] at e3
    simp only [psl]
    rw [hu1 k h1 h2, e3]
    omega
  have g2f : ∀ j, 1 ≤ j → j < 13 → t' j = false → g2 j = g1 j - g1 x' := fun j h1 h2 h3 => by
    rw [hg2 j h1 h2, if_pos h3]
  have q1t : ∀ j, 1 ≤ j → j < 13 → t' j = true → q1 j = q j := fun j h1 h2 h3 => by
    rw [hq1 j h1 h2, if_neg (fun e => by rw [h3] at e; exact absurd e.1 (by decide))]
  have qx : ∀ j, 1 ≤ j → j < 13 → q j ≠ x := fun j h1 h2 e => by
    have := (d1 j h1 h2).2.1
    rw [e, c3] at this
    cases this
  refine ⟨⟨a1, a2⟩, a3, a4, ⟨tup 0 b1, fun j h1 h2 => ?_⟩, ⟨hx1, hx2, hx3, by rw [g2f x' hx1 hx2 hx3]; omega⟩, fun j h1 h2 => ?_, fun j k h1 h2 h3 h4 h5 => ?_, fun j h1 h2 h3 => ?_, ⟨fun j h1 h2 => ?_, ?_⟩, fun i j h1 h2 h3 h4 => ?_, fun j h1 h2 h3 => ?_, fun j h1 h2 => ⟨?_, fun h3 => ?_⟩, ?_, fun i h1 h2 => ?_⟩
  · by_cases hj : j = x
    · rw [hj]; exact hx
    · rw [tn j hj] at h2; exact b2 j h1 h2
  · obtain ⟨k1, k2, k3, k4⟩ := d1 j h1 h2
    by_cases hj : t' j = true
    · rw [q1t j h1 h2 hj]
      refine ⟨k1, tup _ k2, fun _ => ⟨?_, ?_⟩, fun e => absurd e (by rw [hj]; decide)⟩
      · rw [pin (q j) j k1 (tup _ k2) h1 h2 hj]
        by_cases hjx : j = x
        · rw [k4 (by rw [hjx]; exact c3), hjx]; exact c4
        · exact (k3 (by rw [← tn j hjx]; exact hj)).1
      · simp only [qx j h1 h2, if_false]
        by_cases hjx : j = x
        · simp only [hjx, if_true]
          rw [hjx] at k1 k2
          exact e1 _ k1 k2
        · simp only [hjx, if_false]
          exact (k3 (by rw [← tn j hjx]; exact hj)).2
    · have hj : t' j = false := by simpa using hj
      have hg := hg1 j h1 h2
      have hq := hq1 j h1 h2
      by_cases hc : t' j = false ∧ psl w u v (p x) j < gp j
      · rw [if_pos hc] at hg hq
        rw [hq]
        exact ⟨c2, tx, fun e => absurd e (by rw [hj]; decide), fun _ => by rw [pout x j c2 tx h1 h2 hj, g2f j h1 h2 hj, hg]⟩
      · rw [if_neg hc] at hg hq
        rw [hq]
        exact ⟨k1, tup _ k2, fun e => absurd e (by rw [hj]; decide), fun _ => by rw [pout (q j) j k1 (tup _ k2) h1 h2 hj, g2f j h1 h2 hj, hg, k4 (tdn j hj).1]⟩
  · rw [g2f j h1 h2 h3, pout k j h4 h5 h1 h2 h3]
    have := tree j k h1 h2 h3 h4 h5
    omega
  · rw [g2f j h1 h2 h3]
    have := hx4 j h1 h2 h3
    omega
  · by_cases hj : j = x
    · simp only [hj, if_true]; omega
    · simp only [hj, if_false]
      rw [tn j hj] at h2
      have := e1 j h1 h2
      omega
  · have := fb_ct_upd t true (i := x) (n := 13) c2
    rw [ht] at this
    simp [c3] at this
    omega
  · by_cases hin : ∃ k, k < 13 ∧ t' k = true ∧ p k = i
    · obtain ⟨k, k1, k2, rfl⟩ := hin
      by_cases hj : t' j = true
      · rw [pin k j k1 k2 h3 h4 hj]; exact f1 _ j h1 h2 h3 h4
      · have hj : t' j = false := by simpa using hj
        rw [pout k j k1 k2 h3 h4 hj]
        have m1 := tree j k h3 h4 hj k1 k2
        have m2 := hx4 j h3 h4 hj
        omega
    · have hu := hu2 i (fun k k1 k2 e => hin ⟨k, k1, k2, e⟩)
      have hv9 := hv j h3 h4
      have m1 := f1 i j h1 h2 h3 h4
      simp only [psl] at m1 ⊢
      rw [hu]
      by_cases hj : t' j = true
      · rw [if_pos hj] at hv9; omega
      · rw [if_neg hj] at hv9; omega
  · by_cases hj : t' j = true
    · rw [pin j j h2 hj h1 h2 hj]; exact f2 j h1 h2 h3
    · have hnot : ∀ k, k < 13 → t' k = true → p k ≠ p j := fun k k1 k2 e => by
        by_cases hk0 : k = 0
        · subst hk0
          have := a2 j h1 h2
          omega
        · have := a3 k j (by omega) k1 h1 h2 (by rw [e]; exact h3) e
          subst this
          exact hj k2
      have hv9 := hv j h1 h2
      rw [if_neg hj] at hv9
      have m1 := f2 j h1 h2 h3
      simp only [psl] at m1 ⊢
      rw [hu2 (p j) hnot, hv9]
      exact m1
  · have hv9 := hv j h1 h2
    have := (f3 j h1 h2).1
    by_cases hj : t' j = true
    · rw [if_pos hj] at hv9; omega
    · rw [if_neg hj] at hv9; omega
  · have hj : ¬ t' j = true := fun e => by
      by_cases hjx : j = x
      · subst hjx; exact hx h3
      · rw [tn j hjx] at e; exact b2 j h2 e h3
    have hv9 := hv j h1 h2
    rw [if_neg hj] at hv9
    rw [hv9]
    exact (f3 j h1 h2).2 h3
  · have := hu1 0 (by decide) (tup 0 b1)
    rw [a1] at this
    omega
  · rw [hu2 i (fun k k1 k2 e => by
      by_cases hk0 : k = 0
      · subst hk0; omega
      · have := a2 k (by omega) k1; omega)]
    exact f5 i h1 h2
theorem p_free0 {r : Nat} {p : Nat → Nat} (a1 : ∀ j, 1 ≤ j → j < 13 → p j ≤ r) (a2 : ∀ j k, 1 ≤ j → j < 13 → 1 ≤ k → k < 13 → p j ≠ 0 → p j = p k → j = k) (hr : r < 12) : ∃ j, 1 ≤ j ∧ j < 13 ∧ p j = 0 := by
  by_cases h : ∃ j, 1 ≤ j ∧ j < 13 ∧ p j = 0
  · exact h
  · have hn : ∀ j, 1 ≤ j → j < 13 → p j ≠ 0 := fun j h1 h2 e => h ⟨j, h1, h2, e⟩
    have := fb_holes r 12 (fun i => p (i + 1) - 1) (fun i hi => by
      have m1 := a1 (i + 1) (by omega) (by omega)
      have m2 := hn (i + 1) (by omega) (by omega)
      show p (i + 1) - 1 < r
      omega) (fun i j hij hj e => by
      have e : p (i + 1) - 1 = p (j + 1) - 1 := e
      have m1 := hn (i + 1) (by omega) (by omega)
      have m2 := hn (j + 1) (by omega) (by omega)
      have := a2 (i + 1) (j + 1) (by omega) (by omega) (by omega) (by omega) m1 (by omega)
      omega)
    omega
theorem p_bounds {w : Nat → Nat → Int} {r s x : Nat} {p : Nat → Nat} {t : Nat → Bool} {q rk : Nat → Nat} {u v gp : Nat → Int} (hV : pV w r s x p t q rk u v gp) (hr : r < 12) (hw : ∀ i j, 1 ≤ i → i < 13 → 1 ≤ j → j < 13 → 0 ≤ w i j ∧ w i j ≤ 500000000000000000) : (∀ i, 1 ≤ i → i ≤ r + 1 → -500000000000000000 ≤ u i ∧ u i ≤ 0) ∧ (∀ j, 1 ≤ j → j < 13 → -500000000000000000 ≤ v j ∧ v j ≤ 0) := by
  obtain ⟨⟨a1, a2⟩, a3, a4, -, -, -, -, -, -, f1, f2, f3, f4, f5⟩ := hV
  obtain ⟨j0, h1, h2, h3⟩ := p_free0 a2 a3 hr
  have hv0 := (f3 j0 h1 h2).2 h3
  have hu : ∀ i, 1 ≤ i → i ≤ r + 1 → u i ≤ 0 := fun i i1 i2 => by
    have m := f1 i j0 i1 i2 h1 h2
    have m2 := (hw i j0 i1 (by omega) h1 h2).1
    simp only [psl] at m
    omega
  refine ⟨fun i i1 i2 => ⟨?_, hu i i1 i2⟩, fun j j1 j2 => ⟨?_, (f3 j j1 j2).1⟩⟩
  · by_cases hi : i = r + 1
    · rw [hi]; exact f4
    · obtain ⟨j, j1, j2, j3⟩ := a4 i i1 (by omega)
      have m := f2 j j1 j2 (by omega)
      have m2 := (hw i j i1 (by omega) j1 j2).2
      have m3 := (f3 j j1 j2).1
      rw [j3] at m
      simp only [psl] at m
      omega
  · by_cases hp : p j = 0
    · rw [(f3 j j1 j2).2 hp]; decide
    · have m := f2 j j1 j2 hp
      have m1 := a2 j j1 j2
      have m2 := (hw (p j) j (by omega) (by omega) j1 j2).2
      have m3 := hu (p j) (by omega) (by omega)
      simp only [psl] at m
      omega
theorem p_first {w : Nat → Nat → Int} {r : Nat} {p : Nat → Nat} {u v : Nat → Int} (hB : pB w r p u v) (hr : r < 12) (hw : ∀ i j, 1 ≤ i → i < 13 → 1 ≤ j → j < 13 → 0 ≤ w i j ∧ w i j ≤ 500000000000000000) (hp0 : p 0 = r + 1) {x' : Nat} {u' v' g1 g2 : Nat → Int} {q1 : Nat → Nat}
    (hg1 : ∀ j, 1 ≤ j → j < 13 → g1 j = psl w u v (r + 1) j) (hq1 : ∀ j, 1 ≤ j → j < 13 → q1 j = 0)
    (hx1 : 1 ≤ x') (hx2 : x' < 13) (hx4 : ∀ k, 1 ≤ k → k < 13 → g1 x' ≤ g1 k)
    (hu1 : u' (r + 1) = u (r + 1) + g1 x') (hu2 : ∀ i, i ≠ r + 1 → u' i = u i) (hv : ∀ j, 1 ≤ j → j < 13 → v' j = v j) (hg2 : ∀ j, 1 ≤ j → j < 13 → g2 j = g1 j - g1 x') :
    pV w r 1 x' p (fun j => decide (j = 0)) q1 (fun _ => 0) u' v' g2 := by
  obtain ⟨a1, a2, a3, a4, a5, a6, a7, a8⟩ := hB
  have ps : ∀ j, 1 ≤ j → j < 13 → psl w u' v' (r + 1) j = g1 j - g1 x' := fun j h1 h2 => by
    rw [hg1 j h1 h2]
    simp only [psl]
    rw [hu1, hv j h1 h2]
    omega
  have po : ∀ i j, i ≠ r + 1 → 1 ≤ j → j < 13 → psl w u' v' i j = psl w u v i j := fun i j h0 h1 h2 => by
    simp only [psl]
    rw [hu2 i h0, hv j h1 h2]
  refine ⟨⟨hp0, a1⟩, a2, a3, ⟨rfl, fun j h1 h2 => ?_⟩, ⟨hx1, hx2, by simp; omega, by rw [hg2 x' hx1 hx2]; omega⟩, fun j h1 h2 => ?_, fun j k h1 h2 h3 h4 h5 => ?_, fun j h1 h2 h3 => ?_, ⟨fun j h1 h2 => Nat.one_pos, ?_⟩, fun i j h1 h2 h3 h4 => ?_, fun j h1 h2 h3 => ?_, fun j h1 h2 => ?_, ?_, fun i h1 h2 => ?_⟩
  · have : j = 0 := by simpa using h2
    rw [this, hp0]; omega
  · rw [hq1 j h1 h2]
    refine ⟨by decide, rfl, fun e => ?_, fun _ => ?_⟩
    · have : j = 0 := by simpa using e
      omega
    · rw [hp0, ps j h1 h2, hg2 j h1 h2]
  · have : k = 0 := by simpa using h5
    subst this
    rw [hp0, ps j h1 h2, hg2 j h1 h2]
    exact Int.le_refl _
  · rw [hg2 j h1 h2]
    have := hx4 j h1 h2
    omega
  · decide
  · by_cases hi : i = r + 1
    · subst hi
      rw [ps j h3 h4]
      have := hx4 j h3 h4
      omega
    · rw [po i j hi h3 h4]
      exact a4 i j h1 (by omega) h3 h4
  · rw [po (p j) j (by have := a1 j h1 h2; omega) h1 h2]
    exact a5 j h1 h2 h3
  · rw [hv j h1 h2]
    exact a6 j h1 h2
  · rw [hu1, a7 (r + 1) (by omega) (by omega), hg1 x' hx1 hx2]
    simp only [psl]
    have m1 := (hw (r + 1) x' (by omega) (by omega) hx1 hx2).2
    have m2 := (a6 x' hx1 hx2).1
    have m3 := a7 (r + 1) (by omega) (by omega)
    omega
  · rw [hu2 i (by omega)]
    exact a7 i (by omega) h2
/-- the row is moved along the way: a hole goes from x to column 0 -/
def pA (w : Nat → Nat → Int) (r : Nat) (p0 : Nat → Nat) (t : Nat → Bool) (q rk : Nat → Nat) (u v : Nat → Int) (x k : Nat) (p : Nat → Nat) : Prop :=
  x < 13 ∧ (∀ j, j < 13 → p j ≤ r + 1) ∧
  (∀ j j', j < 13 → j' < 13 → j ≠ x → j' ≠ x → p j ≠ 0 → p j = p j' → j = j') ∧
  (∀ i, 1 ≤ i → i ≤ r + 1 → ∃ j, j < 13 ∧ j ≠ x ∧ p j = i) ∧
  (∀ j, 1 ≤ j → j < 13 → j ≠ x → p j ≠ 0 → psl w u v (p j) j = 0) ∧
  (∀ j, j < 13 → t j = true → rk j < k → p j = p0 j) ∧
  (∀ j, j < 13 → j ≠ x → p j = 0 → p0 j = 0) ∧
  (x ≠ 0 → q x < 13 ∧ t (q x) = true ∧ rk (q x) < k ∧ psl w u v (p0 (q x)) x = 0)
theorem p_astart {w : Nat → Nat → Int} {r s x : Nat} {p : Nat → Nat} {t : Nat → Bool} {q rk : Nat → Nat} {u v gp : Nat → Int} (hV : pV w r s x p t q rk u v gp) (hx : p x = 0) : pA w r p t q rk u v x s p := by
  obtain ⟨⟨a1, a2⟩, a3, a4, ⟨b1, b2⟩, ⟨c1, c2, c3, c4⟩, d1, d2, d3, ⟨e1, e2⟩, f1, f2, f3, f4, f5⟩ := hV
  obtain ⟨k1, k2, k3, k4⟩ := d1 x c1 c2
  refine ⟨c2, fun j h => ?_, fun j j' h1 h2 h3 h4 h5 h6 => ?_, fun i h1 h2 => ?_, fun j h1 h2 _ h4 => f2 j h1 h2 h4, fun _ _ _ _ => rfl, fun _ _ _ h => h, fun _ => ⟨k1, k2, e1 _ k1 k2, by rw [k4 c3]; exact c4⟩⟩
  · by_cases hj : j = 0
    · subst hj; omega
    · have := a2 j (by omega) h; omega
  · by_cases hj : j = 0
    · by_cases hj' : j' = 0
      · omega
      · have := a2 j' (by omega) h2
        rw [hj, a1] at h6
        omega
    · by_cases hj' : j' = 0
      · have := a2 j (by omega) h1
        rw [hj', a1] at h6
        omega
      · exact a3 j j' (by omega) h1 (by omega) h2 h5 h6
  · by_cases hi : i = r + 1
    · exact ⟨0, by decide, by omega, by rw [a1, hi]⟩
    · obtain ⟨j, j1, j2, j3⟩ := a4 i h1 (by omega)
      exact ⟨j, j2, fun e => by rw [e, hx] at j3; omega, j3⟩
theorem p_astep {w : Nat → Nat → Int} {r s x0 : Nat} {p0 : Nat → Nat} {t : Nat → Bool} {q rk : Nat → Nat} {u v gp : Nat → Int} (hV : pV w r s x0 p0 t q rk u v gp) {x k : Nat} {p : Nat → Nat} (hA : pA w r p0 t q rk u v x k p) (hx : x ≠ 0) : pA w r p0 t q rk u v (q x) (rk (q x)) (fun j => if j = x then p (q x) else p j) ∧ rk (q x) < k := by
  obtain ⟨⟨a1, a2⟩, a3, a4, ⟨b1, b2⟩, ⟨c1, c2, c3, c4⟩, d1, d2, d3, ⟨e1, e2⟩, f1, f2, f3, f4, f5⟩ := hV
  obtain ⟨m1, m2, m3, m4, m5, m6, m7, m8⟩ := hA
  obtain ⟨n1, n2, n3, n4⟩ := m8 hx
  have hqx : q x ≠ x := fun e => by
    by_cases hxt : t x = true
    · have := ((d1 x (by omega) m1).2.2.1 hxt).2
      rw [e] at this
      omega
    · rw [e] at n2; exact hxt n2
  have pq : p (q x) = p0 (q x) := m6 _ n1 n2 n3
  have pq0 : p (q x) ≠ 0 := by rw [pq]; exact b2 _ n1 n2
  refine ⟨⟨n1, fun j h => ?_, fun j j' h1 h2 h3 h4 h5 h6 => ?_, fun i h1 h2 => ?_, fun j h1 h2 h3 h4 => ?_, fun j h1 h2 h3 => ?_, fun j h1 h2 h3 => ?_, fun h => ?_⟩, n3⟩
  · by_cases hj : j = x
    · simp only [hj, if_true]; exact m2 _ n1
    · simp only [hj, if_false]; exact m2 j h
  · by_cases hj : j = x
    · by_cases hj' : j' = x
      · omega
      · simp only [hj, hj', if_true, if_false] at h5 h6
        exact absurd (m3 (q x) j' n1 h2 hqx hj' h5 h6) (Ne.symm h4)
    · by_cases hj' : j' = x
      · simp only [hj, hj', if_true, if_false] at h5 h6
        exact absurd (m3 j (q x) h1 n1 hj hqx h5 h6) h3
      · simp only [hj, hj', if_false] at h5 h6
        exact m3 j j' h1 h2 hj hj' h5 h6
  · obtain ⟨j, j1, j2, j3⟩ := m4 i h1 h2
    by_cases hj : j = q x
    · exact ⟨x, m1, Ne.symm hqx, by simp only [if_true]; rw [← hj]; exact j3⟩
    · exact ⟨j, j1, hj, by simp only [j2, if_false]; exact j3⟩
  · by_cases hj : j = x
    · subst hj
      simp only [if_true]
      rw [pq]; exact n4
    · simp only [hj, if_false] at h4 ⊢
      exact m5 j h1 h2 hj h4
  · have hj : j ≠ x := fun e => by
      subst e
      by_cases hj0 : j = 0
      · exact hx hj0
      · have := ((d1 j (by omega) h1).2.2.1 h2).2
        omega
    simp only [hj, if_false]
    exact m6 j h1 h2 (by omega)
  · by_cases hj : j = x
    · simp only [hj, if_true] at h3
      exact absurd h3 pq0
    · simp only [hj, if_false] at h3
      exact m7 j h1 hj h3
  · obtain ⟨k1, k2, k3, k4⟩ := d1 (q x) (by omega) n1
    exact ⟨k1, k2, (k3 n2).2, (k3 n2).1⟩
theorem p_end {w : Nat → Nat → Int} {r s x0 : Nat} {p0 : Nat → Nat} {t : Nat → Bool} {q rk : Nat → Nat} {u v gp : Nat → Int} (hV : pV w r s x0 p0 t q rk u v gp) (hx0 : p0 x0 = 0) {k : Nat} {p : Nat → Nat} (hA : pA w r p0 t q rk u v 0 k p) : pB w (r + 1) p u v := by
  obtain ⟨⟨a1, a2⟩, a3, a4, ⟨b1, b2⟩, ⟨c1, c2, c3, c4⟩, d1, d2, d3, ⟨e1, e2⟩, f1, f2, f3, f4, f5⟩ := hV
  obtain ⟨m1, m2, m3, m4, m5, m6, m7, m8⟩ := hA
  refine ⟨fun j h1 h2 => m2 j h2, fun j k h1 h2 h3 h4 h5 h6 => m3 j k h2 h4 (by omega) (by omega) h5 h6, fun i h1 h2 => ?_, f1, fun j h1 h2 h3 => m5 j h1 h2 (by omega) h3, fun j h1 h2 => ⟨(f3 j h1 h2).1, fun h => (f3 j h1 h2).2 (m7 j h2 (by omega) h)⟩, f5, ⟨x0, c1, c2, (f3 x0 c1 c2).2 hx0⟩⟩
  obtain ⟨j, j1, j2, j3⟩ := m4 i h1 h2
  exact ⟨j, by omega, j1, j3⟩
