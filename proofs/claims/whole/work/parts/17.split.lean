/-! ===== two worlds out of one ===== -/
def kXM : mK := fun a => if a < 190 then kX a else kM (a - 190)
theorem kXM_lt {a : Nat} (h : a < 190) : kXM a = kX a := if_pos h
theorem kXM_ge (i : Nat) : kXM (190 + i) = kM i := by
  unfold kXM
  rw [if_neg (by omega), show 190 + i - 190 = i by omega]
theorem mws_cK {g : mG} {K K' : mK} {n : Nat} {I : mI} {J : mJ} {R : mR} (h : ∀ a, a < n → K a = K' a) : mws g K n I J R = mws g K' n I J R := by
  unfold mws
  apply List.map_congr_left
  intro i hi
  have hi := List.mem_range.mp hi
  unfold mE
  rw [h i hi]
theorem mws_cI {g : mG} {K : mK} {n : Nat} {I I' : mI} {J : mJ} {R R' : mR} (h : ∀ a k, a < n → I a k = I' a k ∧ R a k = R' a k) : mws g K n I J R = mws g K n I' J R' := by
  unfold mws
  apply List.map_congr_left
  intro i hi
  have hi := List.mem_range.mp hi
  have e1 : I i = I' i := funext fun k => (h i k hi).1
  have e2 : R i = R' i := funext fun k => (h i k hi).2
  unfold mE mFs
  rw [e1, e2]
def shI (I : mI) : mI := fun i k => I (190 + i) k
theorem shI_up {I : mI} {a k : Nat} {v : Int32} : shI (mup I (190 + a) k v) = mup (shI I) a k v := by
  funext i j
  unfold shI
  by_cases e : i = a ∧ j = k
  · rw [e.1, e.2, mup_eq, mup_eq]
  · rw [mup_ne _ _ (by omega), mup_ne _ _ e]
def shR (R R' : mR) : Prop := ∀ i k, R (190 + i) k = (R' i k).map (fun j => 190 + j)
theorem shR.up {R R' : mR} (h : shR R R') (a k x : Nat) : shR (mup R (190 + a) k (some (190 + x))) (mup R' a k (some x)) := fun i j => by
  by_cases e : i = a ∧ j = k
  · rw [e.1, e.2, mup_eq, mup_eq]; rfl
  · rw [mup_ne _ _ (by omega), mup_ne _ _ e]; exact h i j
theorem shI_9 {I : mI} : shI (iK9 190 I) = iK9 0 (shI I) := by
  unfold iK9
  repeat rw [← shI_up]
theorem shR.u0 {R R' : mR} (h : shR R R') (k x : Nat) : shR (mup R 190 k (some (190 + x))) (mup R' 0 k (some (0 + x))) := by
  have q := h.up 0 k x
  rw [Nat.zero_add]
  exact q
theorem shR_9 {R R' : mR} (h : shR R R') : shR (rK9 190 R) (rK9 0 R') := by
  unfold rK9
  exact ((((((((((((((((h.u0 0 1).u0 1 2).u0 2 3).u0 3 4).u0 4 5).u0 5 6).u0 6 7).u0 7 8).u0 8 9).u0 9 10).u0 11 11).u0 12 12).u0 13 13).u0 14 14).u0 15 15).u0 16 16)
theorem iK9_lt {I : mI} {i k : Nat} (h : i < 190) : iK9 190 I i k = I i k := by
  unfold iK9
  repeat rw [mup_ne _ _ (by omega)]
theorem rK9_lt {R : mR} {i k : Nat} (h : i < 190) : rK9 190 R i k = R i k := by
  unfold rK9
  repeat rw [mup_ne _ _ (by omega)]
/-- the reference's part of the world, by its own ids -/
theorem mE_M {g gM : mG} (h3 : gM.2.2 = g.2.2) (ha : ∀ i, gM.2.1 i = g.2.1 (190 + i)) {I : mI} {J J' : mJ} {R R' : mR} (hJ : ∀ i, J (190 + i) = J' i) (hR : shR R R') (i : Nat) : mE g kXM I J R (190 + i) = mE gM kM (shI I) J' R' i := by
  have e1 : ∀ k, (R (190 + i) k).map g.2.1 = (R' i k).map gM.2.1 := fun k => by
    rw [hR i k]
    cases R' i k with
    | none => rfl
    | some x => simp [ha x]
  have e2 : (fun j => (R (190 + i) j).map g.2.1) = fun j => (R' i j).map gM.2.1 := funext e1
  have e3 : ∀ ci, mFs g I R ci (190 + i) = mFs gM (shI I) R' ci i := fun ci => by
    unfold mFs
    apply List.map_congr_left
    intro k _
    rw [e1 k]
    rfl
  unfold mE
  rw [kXM_ge i, hJ i, e2, e3, h3]
  rfl
theorem P_M {D : va_G} {g gM : mG} (h3 : gM.2.2 = g.2.2) (ha : ∀ i, gM.2.1 i = g.2.1 (190 + i)) {I : mI} {J J' : mJ} {R R' : mR} (hJ : ∀ i, J (190 + i) = J' i) (hR : shR R R') {H : Heap} (hP : va_P D vwCl (mws g kXM 207 I J R) H) : va_P D vwCl (mws gM kM 17 (shI I) J' R') H := fun k q hq => by
  have hk : k < 17 := by
    have := (List.getElem?_eq_some_iff.mp hq).1
    simpa [mws] using this
  rw [mws_at hk] at hq
  cases hq
  have := hP (190 + k) _ (mws_at (show 190 + k < 207 by omega))
  rw [mE_M h3 ha hJ hR k, ← ha] at this
  exact this
theorem P_X {D : va_G} {g : mG} {I : mI} {J : mJ} {R : mR} {H : Heap} (hP : va_P D vwCl (mws g kXM 207 I J R) H) : va_P D vwCl (mws g kX 190 I J R) H := fun k q hq => by
  have hk : k < 190 := by
    have := (List.getElem?_eq_some_iff.mp hq).1
    simpa [mws] using this
  rw [mws_at hk] at hq
  cases hq
  have := hP k _ (mws_at (show k < 207 by omega))
  have e : mE g kXM I J R k = mE g kX I J R k := by
    unfold mE
    rw [kXM_lt hk]
  rw [e] at this
  exact this
