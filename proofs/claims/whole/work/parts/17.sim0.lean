/-! ===== the start: both are alike ===== -/
theorem getD_out {α : Type} {l : List α} {k : Nat} {d : α} (h : l.length ≤ k) : l.getD k d = d := by
  rw [List.getD_eq_getElem?_getD, List.getElem?_eq_none h]
  rfl
def supp (R : mR) : Prop := ∀ a k, ¬ (a < 190 ∧ k < 13) → R a k = none
theorem supp.m {R : mR} (h : supp R) {a k : Nat} {x : Option Nat} (ha : a < 190) (hk : k < 13) : supp (mup R a k x) := fun i j n => by
  rw [mup_ne _ _ (fun z => n ⟨by omega, by omega⟩)]
  exact h i j n
theorem supp.r {R : mR} (h : supp R) {a hi : Nat} {f : Nat → Option Nat} (ha : a < 190) (hk : hi ≤ 13) : supp (rowU R a 0 hi f) := fun i j n => by
  rw [rowU_out (fun z => n ⟨by omega, by omega⟩)]
  exact h i j n
theorem supp.k1 {R : mR} (h : supp R) {a : Nat} (ha : a < 190) : supp (rK1 a R) := by
  unfold rK1
  exact (((h.m ha (by decide)).m ha (by decide)).m ha (by decide)).m ha (by decide)
theorem supp.k2 {R : mR} (h : supp R) {a : Nat} (ha : a + 62 ≤ 190) : ∀ {j : Nat}, j ≤ 12 → supp (rK2 a R j)
  | 0, _ => h.m (by omega) (by decide)
  | j + 1, hj => ((supp.k2 h ha (by omega)).k1 (by omega)).m (by omega) (by omega)
theorem supp.k3 {R : mR} (h : supp R) {a : Nat} (ha : a < 190) : supp (rK3 a R) := by
  unfold rK3
  exact (((h.m ha (by decide)).m ha (by decide)).m ha (by decide)).m ha (by decide)
theorem supp_F : supp rF10 := by
  have h0 : supp zR := fun _ _ _ => rfl
  have h1 : supp rF1 := (h0.k2 (a := 1) (by decide) (by decide)).m (by decide) (by decide)
  have h2 : supp rF2 := by
    unfold rF2 rK0
    exact ((((h1.k2 (a := 63 + 1) (by decide) (by decide)).m (by decide) (by decide)).m (by decide) (by decide)).m (by decide) (by decide)).m (by decide) (by decide)
  have h3 : supp rF3 := by
    unfold rF3 rK6
    exact ((h2.m (by decide) (by decide)).m (by decide) (by decide)).m (by decide) (by decide)
  have h4 : supp rF4 := by
    unfold rF4 rK4
    repeat (first | exact h3 | apply supp.m _ (by decide) (by decide) | apply supp.r _ (by decide) (by decide))
  have h5 : supp rF5 := by
    unfold rF5 rK7
    exact (h4.m (by decide) (by decide)).m (by decide) (by decide)
  have h6 : supp rF6 := by
    unfold rF6 rK5
    exact (h5.m (by decide) (by decide)).m (by decide) (by decide)
  have h7 : supp rF7 := (h6.k1 (by decide)).m (by decide) (by decide)
  have h8 : supp rF8 := (h7.k1 (by decide)).m (by decide) (by decide)
  have h9 : supp rF9 := (h8.k3 (by decide)).m (by decide) (by decide)
  exact (h9.k3 (by decide)).m (by decide) (by decide)
set_option maxRecDepth 100000 in
theorem rXl_len : ∀ a, a < 190 → (rXl.getD a []).length ≤ 13 := by decide +kernel
theorem rXl_190 : rXl.length = 190 := by decide +kernel
theorem supp_X : supp rX := fun a k h => by
  unfold rX
  by_cases ha : a < 190
  · rw [getD_out (Nat.le_trans (rXl_len a ha) (by omega))]
  · rw [getD_out (l := rXl) (by rw [rXl_190]; omega)]
    rfl
set_option maxRecDepth 100000 in
theorem rF_X : ∀ a, a < 190 → ∀ k, k < 13 → rF10 a k = rX a k := by decide +kernel
theorem rF_eq : rF10 = rX := by
  funext a k
  by_cases h : a < 190 ∧ k < 13
  · exact rF_X a h.1 k h.2
  · rw [supp_F a k h, supp_X a k h]
theorem XR_F : XR rF10 180 185 := ⟨fun a k _ _ => by rw [rF_eq], by rw [rF_eq]; rfl, by rw [rF_eq]; rfl, Or.inl ⟨rfl, rfl⟩⟩
def C0 (_ t : Nat) : Nat := if t = 20 then 120 else 0
set_option maxRecDepth 100000 in
theorem iF_C : ∀ F, F < 24 → ∀ t, t < 22 → iF8 (cid F + so t) (si t) = nI (C0 F t) := by decide +kernel
set_option maxRecDepth 100000 in
theorem iF_B : ∀ f, f < 12 → iF8 126 f = nI f ∧ iF8 127 f = -1 := by decide +kernel
set_option maxRecDepth 100000 in
theorem iF_s : iF8 1 1 = 0 ∧ iF8 64 1 = 0 ∧ iF8 128 2 = 0 ∧ iF8 166 1 = 0 ∧ iF8 168 4 = -1 := by decide +kernel
def iM0 : mI := iK9 0 zI
set_option maxRecDepth 100000 in
theorem iM_C : ∀ F, F < 24 → (∀ t, t < 19 → iM0 2 (19 * F + t) = 0) ∧ iM0 3 F = 0 ∧ iM0 5 (F - 12) = 0 := by decide +kernel
set_option maxRecDepth 100000 in
theorem iM_L : ∀ i, i < 21 → iM0 14 i = nI (plN i) := by decide +kernel
set_option maxRecDepth 100000 in
theorem iM_s : iM0 1 0 = 0 ∧ iM0 1 1 = 0 ∧ iM0 0 10 = 0 ∧ iM0 0 17 = 0 ∧ iM0 0 20 = -1 := by decide +kernel
set_option maxRecDepth 100000 in
theorem rM_F0 : ∀ k, k < 23 → rK9 0 zR 0 k = rM 0 k := by decide +kernel
theorem rM_eq : rK9 0 zR = rM := by
  funext a k
  by_cases ha : a = 0
  · subst ha
    by_cases hk : k < 23
    · exact rM_F0 k hk
    · unfold rK9
      rw [mup_ne _ _ (by omega), mup_ne _ _ (by omega), mup_ne _ _ (by omega), mup_ne _ _ (by omega), mup_ne _ _ (by omega), mup_ne _ _ (by omega), mup_ne _ _ (by omega), mup_ne _ _ (by omega), mup_ne _ _ (by omega), mup_ne _ _ (by omega), mup_ne _ _ (by omega), mup_ne _ _ (by omega), mup_ne _ _ (by omega), mup_ne _ _ (by omega), mup_ne _ _ (by omega), mup_ne _ _ (by omega)]
      show none = (rMl.getD 0 []).getD k none
      rw [getD_out (by show 17 ≤ k; omega)]
  · unfold rK9
    rw [mup_ne _ _ (by omega), mup_ne _ _ (by omega), mup_ne _ _ (by omega), mup_ne _ _ (by omega), mup_ne _ _ (by omega), mup_ne _ _ (by omega), mup_ne _ _ (by omega), mup_ne _ _ (by omega), mup_ne _ _ (by omega), mup_ne _ _ (by omega), mup_ne _ _ (by omega), mup_ne _ _ (by omega), mup_ne _ _ (by omega), mup_ne _ _ (by omega), mup_ne _ _ (by omega), mup_ne _ _ (by omega)]
    show none = (rMl.getD a []).getD k none
    by_cases h17 : a < 17
    · have : ∀ a, a < 17 → a ≠ 0 → rMl.getD a [] = [] := by decide
      rw [this a h17 ha]
      rfl
    · rw [getD_out (l := rMl) (by show 17 ≤ a; omega)]
      rfl
theorem sim0 {I1 : mI} (hl : XL I1 180 plN) (hi : ∀ i k, i < 180 → I1 i k = iF8 i k) : Sim I1 rF10 iM0 := by
  obtain ⟨s1, s2, s3, s4, s5⟩ := iF_s
  obtain ⟨t1, t2, t3, t4, t5⟩ := iM_s
  refine SimA.s (nl := 0) (nf := 0) (C := C0) (ld := fun f => f) (nm := fun _ => 0) (lw := plN) (ns := 0) (sb := fun _ => 0) (sm := fun _ => 0) (sp := fun _ => 0) (tl := 0) (tb := fun _ => 0) (L := 180) (L' := 185) ⟨⟨fun F hF => ?_, fun f hf => ⟨Nat.le_refl f, rfl, fun _ => ⟨rfl, rfl⟩, Nat.zero_le _, fun h => absurd rfl h⟩, plN_le, ⟨Nat.zero_le _, fun i h => absurd h (Nat.not_lt_zero i), fun i j h => absurd h (Nat.not_lt_zero i)⟩⟩, ⟨XR_F, ⟨by rw [hi 1 1 (by decide)]; exact s1, by rw [hi 64 1 (by decide)]; exact s2, Nat.zero_le _, Nat.zero_le _⟩, fun F hF t ht => ?_, fun f hf => ⟨by rw [hi _ _ (by decide)]; exact (iF_B f hf).1, by rw [hi _ _ (by decide)]; exact (iF_B f hf).2⟩, hl⟩, ⟨by rw [hi _ _ (by decide)]; exact s3, fun i h => absurd h (Nat.not_lt_zero i)⟩, ⟨by rw [hi _ _ (by decide)]; exact s4, Nat.zero_le _, fun i h => absurd h (Nat.not_lt_zero i)⟩, ⟨⟨t1, t2, Nat.zero_le _, Nat.zero_le _⟩, fun F hF => ⟨fun t ht => ?_, (iM_C F hF).2.1, fun v => ?_, fun _ => (iM_C F hF).2.2⟩, fun f h => absurd h (Nat.not_lt_zero f), iM_L⟩, ⟨t3, fun i h => absurd h (Nat.not_lt_zero i)⟩, ⟨t4, fun i h => absurd h (Nat.not_lt_zero i)⟩, by rw [hi _ _ (by decide), s5, t5]⟩
  · refine ⟨show (if 0 = 20 then 120 else 0) ≤ 2 by decide, fun t a b => ?_, fun t a b => ?_, fun t a b => Or.inl ?_, show (if 19 = 20 then 120 else 0) ≤ 120 by decide, show (if 20 = 20 then 120 else 0) ≤ 120 by decide, show (if 21 = 20 then 120 else 0) ≤ 255 by decide, fun _ t _ => rfl⟩
    · show (if t = 20 then 120 else 0) ≤ 3
      rw [if_neg (by omega)]; omega
    · show (if t = 20 then 120 else 0) ≤ 9
      rw [if_neg (by omega)]; omega
    · show (if t = 20 then 120 else 0) = 0
      rw [if_neg (by omega)]
  · have := cid_rng hF
    have := so_le t ht
    rw [hi _ _ (by omega)]
    exact iF_C F hF t ht
  · rw [(iM_C F hF).1 t ht]
    show (0 : Int32) = nI (if t = 20 then 120 else 0)
    rw [if_neg (by omega)]
    rfl
  · unfold vF at v
    omega
