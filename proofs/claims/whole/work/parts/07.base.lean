def kXl : List (Nat × Nat) := [(0, 8), (0, 2), (5, 12), (0, 1), (1, 8), (1, 4), (1, 3), (1, 3), (0, 1), (1, 8), (1, 4), (1, 3), (1, 3), (0, 1), (1, 8), (1, 4), (1, 3), (1, 3), (0, 1), (1, 8), (1, 4), (1, 3), (1, 3), (0, 1), (1, 8), (1, 4), (1, 3), (1, 3), (0, 1), (1, 8), (1, 4), (1, 3), (1, 3), (0, 1), (1, 8), (1, 4), (1, 3), (1, 3), (0, 1), (1, 8), (1, 4), (1, 3), (1, 3), (0, 1), (1, 8), (1, 4), (1, 3), (1, 3), (0, 1), (1, 8), (1, 4), (1, 3), (1, 3), (0, 1), (1, 8), (1, 4), (1, 3), (1, 3), (0, 1), (1, 8), (1, 4), (1, 3), (1, 3), (0, 0), (0, 2), (5, 12), (0, 1), (1, 8), (1, 4), (1, 3), (1, 3), (0, 1), (1, 8), (1, 4), (1, 3), (1, 3), (0, 1), (1, 8), (1, 4), (1, 3), (1, 3), (0, 1), (1, 8), (1, 4), (1, 3), (1, 3), (0, 1), (1, 8), (1, 4), (1, 3), (1, 3), (0, 1), (1, 8), (1, 4), (1, 3), (1, 3), (0, 1), (1, 8), (1, 4), (1, 3), (1, 3), (0, 1), (1, 8), (1, 4), (1, 3), (1, 3), (0, 1), (1, 8), (1, 4), (1, 3), (1, 3), (0, 1), (1, 8), (1, 4), (1, 3), (1, 3), (0, 1), (1, 8), (1, 4), (1, 3), (1, 3), (0, 1), (1, 8), (1, 4), (1, 3), (1, 3), (1, 12), (1, 12), (0, 6), (1, 60), (1, 60), (0, 4), (6, 12), (1, 12), (1, 12), (1, 12), (1, 12), (1, 12), (1, 12), (1, 12), (1, 12), (1, 12), (1, 12), (1, 12), (1, 12), (1, 12), (7, 13), (4, 13), (4, 13), (4, 13), (4, 13), (4, 13), (4, 13), (4, 13), (4, 13), (4, 13), (4, 13), (4, 13), (4, 13), (4, 13), (1, 13), (4, 13), (4, 13), (4, 13), (1, 13), (3, 13), (0, 7), (2, 500), (0, 5), (2, 0), (0, 1), (1, 8), (1, 4), (1, 3), (1, 3), (0, 1), (1, 8), (1, 4), (1, 3), (1, 3), (0, 3), (1, 4), (1, 4), (1, 10), (1, 4), (0, 3), (1, 4), (1, 4), (1, 10), (1, 4)]
def kX : mK := fun a => kXl.getD a (99, 0)
def rXl : List (List (Option Nat)) := [[some 1, some 63, some 128, some 131, some 166, some 168, some 170, some 175, some 180, some 185], [some 2, none], [some 3, some 8, some 13, some 18, some 23, some 28, some 33, some 38, some 43, some 48, some 53, some 58], [none, none, none, none, some 4, some 5, some 6, some 7], [], [], [], [], [none, none, none, none, some 9, some 10, some 11, some 12], [], [], [], [], [none, none, none, none, some 14, some 15, some 16, some 17], [], [], [], [], [none, none, none, none, some 19, some 20, some 21, some 22], [], [], [], [], [none, none, none, none, some 24, some 25, some 26, some 27], [], [], [], [], [none, none, none, none, some 29, some 30, some 31, some 32], [], [], [], [], [none, none, none, none, some 34, some 35, some 36, some 37], [], [], [], [], [none, none, none, none, some 39, some 40, some 41, some 42], [], [], [], [], [none, none, none, none, some 44, some 45, some 46, some 47], [], [], [], [], [none, none, none, none, some 49, some 50, some 51, some 52], [], [], [], [], [none, none, none, none, some 54, some 55, some 56, some 57], [], [], [], [], [none, none, none, none, some 59, some 60, some 61, some 62], [], [], [], [], [some 64, some 126, some 127], [some 65, none], [some 66, some 71, some 76, some 81, some 86, some 91, some 96, some 101, some 106, some 111, some 116, some 121], [none, none, none, none, some 67, some 68, some 69, some 70], [], [], [], [], [none, none, none, none, some 72, some 73, some 74, some 75], [], [], [], [], [none, none, none, none, some 77, some 78, some 79, some 80], [], [], [], [], [none, none, none, none, some 82, some 83, some 84, some 85], [], [], [], [], [none, none, none, none, some 87, some 88, some 89, some 90], [], [], [], [], [none, none, none, none, some 92, some 93, some 94, some 95], [], [], [], [], [none, none, none, none, some 97, some 98, some 99, some 100], [], [], [], [], [none, none, none, none, some 102, some 103, some 104, some 105], [], [], [], [], [none, none, none, none, some 107, some 108, some 109, some 110], [], [], [], [], [none, none, none, none, some 112, some 113, some 114, some 115], [], [], [], [], [none, none, none, none, some 117, some 118, some 119, some 120], [], [], [], [], [none, none, none, none, some 122, some 123, some 124, some 125], [], [], [], [], [], [], [some 129, some 130, none], [], [], [some 132, some 145, none, some 146, some 160, some 161, some 162, some 163, some 164, some 165], [some 133, some 134, some 135, some 136, some 137, some 138, some 139, some 140, some 141, some 142, some 143, some 144], [], [], [], [], [], [], [], [], [], [], [], [], [], [some 147, some 148, some 149, some 150, some 151, some 152, some 153, some 154, some 155, some 156, some 157, some 158, some 159], [], [], [], [], [], [], [], [], [], [], [], [], [], [], [], [], [], [], [], [some 167, none], [], [some 169, none, none, none, none], [], [none, none, none, none, some 171, some 172, some 173, some 174], [], [], [], [], [none, none, none, none, some 176, some 177, some 178, some 179], [], [], [], [], [some 181, some 182, some 183, some 184], [], [], [], [], [some 186, some 187, some 188, some 189], [], [], [], []]
def rX : mR := fun a k => (rXl.getD a []).getD k none
def kMl : List (Nat × Nat) := [(0, 9), (1, 2), (1, 456), (1, 24), (1, 24), (1, 12), (1, 12), (1, 12), (1, 144), (1, 53248), (1, 12), (1, 60), (1, 60), (1, 60), (1, 42), (2, 500), (2, 500)]
def kM : mK := fun a => kMl.getD a (99, 0)
def rMl : List (List (Option Nat)) := [[some 1, some 2, some 3, some 4, some 5, some 6, some 7, some 8, some 9, some 10, none, some 11, some 12, some 13, some 14, some 15, some 16], [], [], [], [], [], [], [], [], [], [], [], [], [], [], [], []]
def rM : mR := fun a k => (rMl.getD a []).getD k none
theorem mIx_of {K : mK} {a q N j : Nat} (h : K a = (q, N)) (hj : j < N) (hN : N < 2 ^ 31) : mIx K a q (nI j) := by
  refine ⟨by rw [h], ?_, ?_⟩
  · rw [nI_toInt (by omega)]; omega
  · rw [nI_toInt (by omega), h]; omega
theorem nI_c {j : Nat} (h : j < 2 ^ 31) : (nI j).toNatClampNeg = j := nI_clamp h
theorem nI_s1 (j : Nat) : nI j + (1 : Int32) = nI (j + 1) := nI_1 j
theorem nI_m1 {j : Nat} (h : 0 < j) : nI j - (1 : Int32) = nI (j - 1) := by
  have e := nI_pred (j - 1)
  rw [show j - 1 + 1 = j by omega] at e
  exact e
/-- a stretch of a row is written -/
def rowU {α : Type} (f : Nat → Nat → α) (a lo hi : Nat) (g : Nat → α) : Nat → Nat → α := fun i k => if i = a ∧ lo ≤ k ∧ k < hi then g k else f i k
theorem rowU_0 {α : Type} (f : Nat → Nat → α) (a lo : Nat) (g : Nat → α) : rowU f a lo lo g = f := by
  funext i k
  simp only [rowU]
  rw [if_neg (by omega)]
theorem rowU_in {α : Type} {f : Nat → Nat → α} {a lo hi k : Nat} {g : Nat → α} (h1 : lo ≤ k) (h2 : k < hi) : rowU f a lo hi g a k = g k := by
  simp only [rowU]
  rw [if_pos ⟨trivial, h1, h2⟩]
theorem rowU_out {α : Type} {f : Nat → Nat → α} {a lo hi i k : Nat} {g : Nat → α} (h : ¬ (i = a ∧ lo ≤ k ∧ k < hi)) : rowU f a lo hi g i k = f i k := by
  simp only [rowU]
  rw [if_neg h]
theorem rowU_ne {α : Type} {f : Nat → Nat → α} {a lo hi i k : Nat} {g : Nat → α} (h : i ≠ a) : rowU f a lo hi g i k = f i k := rowU_out (fun q => h q.1)
theorem rowU_s {α : Type} {f : Nat → Nat → α} {a lo j : Nat} {g : Nat → α} {v : α} (h : lo ≤ j) (hv : v = g j) : mup (rowU f a lo j g) a j v = rowU f a lo (j + 1) g := by
  subst hv
  funext i k
  simp only [rowU, mup]
  by_cases h1 : i = a
  · by_cases h2 : k = j
    · rw [if_pos ⟨h1, h2⟩, if_pos ⟨h1, by omega, by omega⟩, h2]
    · rw [if_neg (fun q => h2 q.2)]
      by_cases h3 : lo ≤ k ∧ k < j
      · rw [if_pos ⟨h1, h3⟩, if_pos ⟨h1, by omega, by omega⟩]
      · rw [if_neg (fun q => h3 q.2), if_neg (fun q => h3 ⟨q.2.1, by omega⟩)]
  · rw [if_neg (fun q => h1 q.1), if_neg (fun q => h1 q.1), if_neg (fun q => h1 q.1)]
theorem rowU_k {α : Type} {f : Nat → Nat → α} {a lo j : Nat} {g : Nat → α} (h : lo ≤ j) (hv : g j = f a j) : rowU f a lo j g = rowU f a lo (j + 1) g := by
  funext i k
  simp only [rowU]
  by_cases h1 : i = a ∧ lo ≤ k ∧ k < j
  · rw [if_pos h1, if_pos ⟨h1.1, h1.2.1, by omega⟩]
  · rw [if_neg h1]
    by_cases h2 : i = a ∧ k = j
    · rw [if_pos ⟨h2.1, by omega, by omega⟩, h2.2, hv, h2.1]
    · rw [if_neg (fun q => h1 ⟨q.1, q.2.1, by omega⟩)]
theorem mb_0 (b : Bool) : mb b = 0 ↔ b = false := by cases b <;> decide
theorem mb_t : mb true = 1 := rfl
theorem mb_f : mb false = 0 := rfl
/-! the references of the class's objects: all but three slots stay -/
def XR (R : mR) (L L' : Nat) : Prop := (∀ a k, ¬ (a = 0 ∧ (k = 8 ∨ k = 9)) → ¬ (a = 168 ∧ k = 0) → R a k = rX a k) ∧ R 0 8 = some L ∧ R 0 9 = some L' ∧ ((L = 180 ∧ L' = 185) ∨ (L = 185 ∧ L' = 180))
theorem XR.at {R : mR} {L L' a k x : Nat} (h : XR R L L') (h1 : ¬ (a = 0 ∧ (k = 8 ∨ k = 9))) (h2 : ¬ (a = 168 ∧ k = 0)) (h3 : rX a k = some x) : R a k = some x := (h.1 a k h1 h2).trans h3
set_option maxRecDepth 20000 in
theorem KX_pts : ∀ b, b < 12 → kX (133 + b) = (1, 12) := by decide +kernel
set_option maxRecDepth 20000 in
theorem KX_wor : ∀ b, b < 13 → kX (147 + b) = (4, 13) := by decide +kernel
set_option maxRecDepth 20000 in
theorem RX_pts : ∀ b, b < 12 → rX 132 b = some (133 + b) := by decide +kernel
set_option maxRecDepth 20000 in
theorem RX_wor : ∀ b, b < 13 → rX 146 b = some (147 + b) := by decide +kernel
