/-! ===== both at once ===== -/
def SI (ns : Nat) (sb sm sp : Nat → Nat) : Prop := ns ≤ 60 ∧ (∀ i, i < ns → sb i < 12 ∧ sm i < 12 ∧ sp i < 10) ∧ ∀ i j, i < ns → j < ns → sb i = sb j → sm i = sm j → sp i = sp j → i = j
def XS (I : mI) (ns : Nat) (sb sm sp : Nat → Nat) : Prop := I 128 2 = nI ns ∧ ∀ i, i < ns → I 129 i = nI (12 * sb i + sm i) ∧ I 130 i = nI (sp i)
def MS (I : mI) (ns : Nat) (sb sm sp : Nat → Nat) : Prop := I 0 10 = nI ns ∧ ∀ i, i < ns → I 11 i = nI (sb i) ∧ I 12 i = nI (sm i) ∧ I 13 i = nI (sp i)
def XT (I : mI) (tl : Nat) (tb : Nat → Int32) : Prop := I 166 1 = nI tl ∧ tl ≤ 500 ∧ ∀ i, i < tl → I 167 i = tb i ∧ (tb i).toInt8.toInt32 = tb i
def MT (I : mI) (tl : Nat) (tb : Nat → Int32) : Prop := I 0 17 = nI tl ∧ ∀ i, i < tl → I 15 i = tb i
def XA (I : mI) (R : mR) (nl nf : Nat) (C : Nat → Nat → Nat) (ld nm lw : Nat → Nat) (L L' : Nat) : Prop := XR R L L' ∧ XH I nl nf ∧ XC I C ∧ XB I ld nm ∧ XL I L lw
def MA (I : mI) (nl nf : Nat) (C : Nat → Nat → Nat) (ld nm lw : Nat → Nat) : Prop := MH I nl nf ∧ MC I C nl nf ∧ MB I ld nm nf ∧ ML I lw
def GI (nl nf : Nat) (C : Nat → Nat → Nat) (ld nm lw : Nat → Nat) (ns : Nat) (sb sm sp : Nat → Nat) : Prop := CI C nl nf ∧ BI ld nm nl nf ∧ LI lw ∧ SI ns sb sm sp
def SimA (nl nf : Nat) (C : Nat → Nat → Nat) (ld nm lw : Nat → Nat) (ns : Nat) (sb sm sp : Nat → Nat) (tl : Nat) (tb : Nat → Int32) (L L' : Nat) (I : mI) (R : mR) (I' : mI) : Prop :=
  GI nl nf C ld nm lw ns sb sm sp ∧ XA I R nl nf C ld nm lw L L' ∧ XS I ns sb sm sp ∧ XT I tl tb ∧ MA I' nl nf C ld nm lw ∧ MS I' ns sb sm sp ∧ MT I' tl tb ∧ I 168 4 = I' 0 20
def Sim (I : mI) (R : mR) (I' : mI) : Prop := ∃ (nl nf : Nat) (C : Nat → Nat → Nat) (ld nm lw : Nat → Nat) (ns : Nat) (sb sm sp : Nat → Nat) (tl : Nat) (tb : Nat → Int32) (L L' : Nat), SimA nl nf C ld nm lw ns sb sm sp tl tb L L' I R I'
theorem SimA.s {nl nf : Nat} {C : Nat → Nat → Nat} {ld nm lw : Nat → Nat} {ns : Nat} {sb sm sp : Nat → Nat} {tl : Nat} {tb : Nat → Int32} {L L' : Nat} {I : mI} {R : mR} {I' : mI} (h : SimA nl nf C ld nm lw ns sb sm sp tl tb L L' I R I') : Sim I R I' := ⟨nl, nf, C, ld, nm, lw, ns, sb, sm, sp, tl, tb, L, L', h⟩
/-! parts that a write doesn't reach -/
theorem XH.cg {I I' : mI} {nl nf : Nat} (h : XH I nl nf) (e : ∀ a k, a = 1 ∨ a = 64 → I' a k = I a k) : XH I' nl nf := ⟨(e 1 1 (by omega)).trans h.1, (e 64 1 (by omega)).trans h.2.1, h.2.2⟩
theorem XB.cg {I I' : mI} {ld nm : Nat → Nat} (h : XB I ld nm) (e : ∀ a k, a = 126 ∨ a = 127 → I' a k = I a k) : XB I' ld nm := fun f hf => ⟨(e 126 f (by omega)).trans (h f hf).1, (e 127 f (by omega)).trans (h f hf).2⟩
theorem XC.cg {I I' : mI} {C : Nat → Nat → Nat} (h : XC I C) (e : ∀ a k, (3 ≤ a ∧ a ≤ 62) ∨ (66 ≤ a ∧ a ≤ 125) → I' a k = I a k) : XC I' C := fun F hF t ht => by
  have s := so_le t ht
  have r : (3 ≤ cid F + so t ∧ cid F + so t ≤ 62) ∨ (66 ≤ cid F + so t ∧ cid F + so t ≤ 125) := by
    unfold cid
    split <;> omega
  exact (e _ _ r).trans (h F hF t ht)
theorem XL.cg {I I' : mI} {L : Nat} {lw : Nat → Nat} (h : XL I L lw) (e : ∀ a k, L + 1 ≤ a ∧ a ≤ L + 4 → I' a k = I a k) : XL I' L lw := ⟨fun i a b => (e _ _ (by omega)).trans (h.1 i a b), fun i a => (e _ _ (by omega)).trans (h.2.1 i a), fun i a b => (e _ _ (by omega)).trans (h.2.2.1 i a b), fun i a => (e _ _ (by omega)).trans (h.2.2.2 i a)⟩
theorem XS.cg {I I' : mI} {ns : Nat} {sb sm sp : Nat → Nat} (h : XS I ns sb sm sp) (e : ∀ a k, a = 128 ∨ a = 129 ∨ a = 130 → I' a k = I a k) : XS I' ns sb sm sp := ⟨(e _ _ (by omega)).trans h.1, fun i hi => ⟨(e _ _ (by omega)).trans (h.2 i hi).1, (e _ _ (by omega)).trans (h.2 i hi).2⟩⟩
theorem XT.cg {I I' : mI} {tl : Nat} {tb : Nat → Int32} (h : XT I tl tb) (e : ∀ a k, a = 166 ∨ a = 167 → I' a k = I a k) : XT I' tl tb := ⟨(e _ _ (by omega)).trans h.1, h.2.1, fun i hi => ⟨(e _ _ (by omega)).trans (h.2.2 i hi).1, (h.2.2 i hi).2⟩⟩
theorem MH.cg {I I' : mI} {nl nf : Nat} (h : MH I nl nf) (e : ∀ k, I' 1 k = I 1 k) : MH I' nl nf := ⟨(e 0).trans h.1, (e 1).trans h.2.1, h.2.2⟩
theorem MC.cg {I I' : mI} {C : Nat → Nat → Nat} {nl nf : Nat} (h : MC I C nl nf) (e : ∀ a k, 2 ≤ a ∧ a ≤ 5 → I' a k = I a k) : MC I' C nl nf := fun F hF => ⟨fun t ht => (e _ _ (by omega)).trans ((h F hF).1 t ht), (e _ _ (by omega)).trans (h F hF).2.1, fun v => (e _ _ (by omega)).trans ((h F hF).2.2.1 v), fun v => (e _ _ (by omega)).trans ((h F hF).2.2.2 v)⟩
theorem MB.cg {I I' : mI} {ld nm : Nat → Nat} {nf : Nat} (h : MB I ld nm nf) (e : ∀ a k, a = 6 ∨ a = 7 → I' a k = I a k) : MB I' ld nm nf := fun f hf => ⟨(e _ _ (by omega)).trans (h f hf).1, (e _ _ (by omega)).trans (h f hf).2⟩
theorem ML.cg {I I' : mI} {lw : Nat → Nat} (h : ML I lw) (e : ∀ k, k < 21 → I' 14 k = I 14 k) : ML I' lw := fun i hi => (e i hi).trans (h i hi)
theorem MS.cg {I I' : mI} {ns : Nat} {sb sm sp : Nat → Nat} (h : MS I ns sb sm sp) (e0 : I' 0 10 = I 0 10) (e : ∀ a k, a = 11 ∨ a = 12 ∨ a = 13 → I' a k = I a k) : MS I' ns sb sm sp := ⟨e0.trans h.1, fun i hi => ⟨(e _ _ (by omega)).trans (h.2 i hi).1, (e _ _ (by omega)).trans (h.2 i hi).2.1, (e _ _ (by omega)).trans (h.2 i hi).2.2⟩⟩
theorem MT.cg {I I' : mI} {tl : Nat} {tb : Nat → Int32} (h : MT I tl tb) (e0 : I' 0 17 = I 0 17) (e : ∀ k, I' 15 k = I 15 k) : MT I' tl tb := ⟨e0.trans h.1, fun i hi => (e i).trans (h.2 i hi)⟩
theorem SimA.same {nl nf : Nat} {C : Nat → Nat → Nat} {ld nm lw : Nat → Nat} {ns : Nat} {sb sm sp : Nat → Nat} {tl : Nat} {tb : Nat → Int32} {L L' : Nat} {I I1 : mI} {R : mR} {I' I1' : mI} (h : SimA nl nf C ld nm lw ns sb sm sp tl tb L L' I R I') (hX : sameX I I1) (hM : sameM I' I1') : SimA nl nf C ld nm lw ns sb sm sp tl tb L L' I1 R I1' := by
  obtain ⟨h1, ⟨x1, x2, x3, x4, x5⟩, h3, h4, ⟨m1, m2, m3, m4⟩, h6, h7, h8⟩ := h
  have hL := x1.L
  exact ⟨h1, ⟨x1, x2.same hX, x3.same hX, x4.same hX, x5.same hL.1 hX⟩, h3.cg (fun a k h => hX a k (by omega)), h4.cg (fun a k h => hX a k (by omega)), ⟨m1.same hM, m2.same hM, m3.same hM, m4.same hM⟩, h6.cg (hM _ _ (by decide) (by decide) (by decide)) (fun a k h => hM a k (by omega) (by omega) (by omega)), h7.cg (hM _ _ (by decide) (by decide) (by decide)) (fun k => hM _ _ (by decide) (by decide) (by decide)), by rw [hX 168 4 (by decide), hM 0 20 (by decide) (by decide) (by decide)]; exact h8⟩
/-! arguments -/
theorem asN {x : Int32} (h : ¬ x < 0) : ∃ j, j < 2 ^ 31 ∧ x = nI j := by
  have r := fb_rng x
  have h2 : ¬ x.toInt < (0 : Int32).toInt := fun z => h (Int32.lt_iff_toInt_lt.mpr z)
  have e0 : (0 : Int32).toInt = 0 := rfl
  refine ⟨x.toInt.toNat, by omega, ?_⟩
  apply Int32.toInt_inj.mp
  rw [nI_toInt (by omega)]
  omega
theorem nI_lti {a b : Nat} (ha : a < 2 ^ 31) (hb : b < 2 ^ 31) : nI a < nI b ↔ a < b := by
  rw [Int32.lt_iff_toInt_lt, nI_toInt ha, nI_toInt hb]
  omega
theorem nI_lei {a b : Nat} (ha : a < 2 ^ 31) (hb : b < 2 ^ 31) : nI a ≤ nI b ↔ a ≤ b := by
  rw [Int32.le_iff_toInt_le, nI_toInt ha, nI_toInt hb]
  omega
theorem argc (x : Int32) {n : Nat} (hn : n < 2 ^ 31) : (∃ j, j < n ∧ x = nI j) ∨ (x < 0 ∨ nI n ≤ x) := by
  by_cases h : x < 0
  · exact Or.inr (Or.inl h)
  · obtain ⟨j, j1, rfl⟩ := asN h
    by_cases h2 : j < n
    · exact Or.inl ⟨j, h2, rfl⟩
    · exact Or.inr (Or.inr (nI_le (by omega) j1))
theorem x_win {K : mK} (x lo hi : Int32) {I : mI} {J : mJ} {R : mR} : f_X8_within K x lo hi I J R = some (!decide (x < lo) && !decide (hi < x)) := by
  rw [f_X8_within]
  by_cases h : x < lo
  · rw [if_pos h]; simp [h]
  · rw [if_neg h]
    by_cases h2 : hi < x
    · rw [if_pos h2]; simp [h, h2]
    · rw [if_neg h2]; simp [h, h2]
theorem inr {x : Int32} {lo hi : Nat} (hh : hi < 2 ^ 31) (hl : lo < 2 ^ 31) (h : (!decide (x < nI lo) && !decide (nI hi < x)) = true) : ∃ j, lo ≤ j ∧ j ≤ hi ∧ x = nI j := by
  simp only [Bool.and_eq_true, Bool.not_eq_true', decide_eq_false_iff_not] at h
  have h0 : ¬ x < 0 := fun z => h.1 (by
    rw [Int32.lt_iff_toInt_lt] at z ⊢
    rw [nI_toInt hl]
    have : (0 : Int32).toInt = 0 := rfl
    omega)
  obtain ⟨j, j1, rfl⟩ := asN h0
  rw [nI_lti j1 hl, nI_lti hh j1] at h
  exact ⟨j, by omega, by omega, rfl⟩
/-! a value of a file is written -/
def okv (t v : Nat) : Prop := (t = 0 → v ≤ 2) ∧ (1 ≤ t → t < 9 → v ≤ 3) ∧ (9 ≤ t → t < 13 → v ≤ 9) ∧ (13 ≤ t → t < 19 → sh v) ∧ (t = 19 → v ≤ 120) ∧ (t = 20 → v ≤ 120) ∧ (t = 21 → v ≤ 255)
theorem CI.put {C : Nat → Nat → Nat} {nl nf F t v : Nat} (h : CI C nl nf) (hF : vF nl nf F) (hv : okv t v) : CI (mup C F t v) nl nf := fun F' hF' => by
  obtain ⟨h1, h2, h3, h4, h5, h6, h7, h8⟩ := h F' hF'
  obtain ⟨v1, v2, v3, v4, v5, v6, v7⟩ := hv
  have key : ∀ {Q : Nat → Prop} {t' : Nat}, Q (C F' t') → (t' = t → Q v) → Q (mup C F t v F' t') := fun {Q t'} a b => by
    by_cases e : F' = F ∧ t' = t
    · rw [e.1, e.2, mup_eq]; exact b e.2
    · rw [mup_ne _ _ e]; exact a
  refine ⟨key (Q := fun x => x ≤ 2) h1 (fun e => v1 e.symm), fun t' a b => key (Q := fun x => x ≤ 3) (h2 t' a b) (fun e => v2 (by omega) (by omega)), fun t' a b => key (Q := fun x => x ≤ 9) (h3 t' a b) (fun e => v3 (by omega) (by omega)), fun t' a b => key (Q := sh) (h4 t' a b) (fun e => v4 (by omega) (by omega)), key (Q := fun x => x ≤ 120) h5 (fun e => v5 e.symm), key (Q := fun x => x ≤ 120) h6 (fun e => v6 e.symm), key (Q := fun x => x ≤ 255) h7 (fun e => v7 e.symm), fun nv t' ht' => ?_⟩
  rw [mup_ne _ _ (fun e => nv (by rw [e.1]; exact hF))]
  exact h8 nv t' ht'
theorem vF.lt {nl nf F : Nat} (h : vF nl nf F) : F < 24 := by unfold vF at h; omega
theorem XC.put {I : mI} {C : Nat → Nat → Nat} {F t v : Nat} (h : XC I C) (ht : t < 22) : XC (mup I (cid F + so t) (si t) (nI v)) (mup C F t v) := fun F' hF' t' ht' => by
  by_cases e : F' = F ∧ t' = t
  · rw [e.1, e.2, mup_eq, mup_eq]
  · rw [mup_ne C _ e, mup_ne I _ (fun z => by
      obtain ⟨z1, z2⟩ := cid_so (so_le t' ht') (so_le t ht) z.1
      exact e ⟨z1, so_si t' ht' t ht z2 z.2⟩)]
    exact h F' hF' t' ht'
def ma (t : Nat) : Nat := if t < 19 then 2 else t - 16
def mk (F t : Nat) : Nat := if t < 19 then 19 * F + t else if t = 21 then F - 12 else F
theorem MC.put {I : mI} {C : Nat → Nat → Nat} {nl nf F t v : Nat} (h : MC I C nl nf) (ht : t < 22) (hF : t = 21 → 12 ≤ F) : MC (mup I (ma t) (mk F t) (nI v)) (mup C F t v) nl nf := fun F' hF' => by
  obtain ⟨h1, h2, h3, h4⟩ := h F' hF'
  unfold ma mk
  refine ⟨fun t' ht' => ?_, ?_, fun a => ?_, fun a => ?_⟩
  · by_cases e : F' = F ∧ t' = t
    · rw [e.1, e.2, mup_eq, if_pos (by omega), if_pos (by omega), mup_eq]
    · rw [mup_ne C _ e, mup_ne I _ (by split <;> omega)]; exact h1 t' ht'
  · by_cases e : F' = F ∧ 19 = t
    · rw [e.1, ← e.2, mup_eq]; exact mup_eq _ _ _ _
    · rw [mup_ne C _ e, mup_ne I _ (by split <;> (try split) <;> omega)]; exact h2
  · by_cases e : F' = F ∧ 20 = t
    · rw [e.1, ← e.2, mup_eq]; exact mup_eq _ _ _ _
    · rw [mup_ne C _ e, mup_ne I _ (by split <;> (try split) <;> omega)]; exact h3 a
  · by_cases e : F' = F ∧ 21 = t
    · rw [e.1, ← e.2, mup_eq]; exact mup_eq _ _ _ _
    · rw [mup_ne C _ e, mup_ne I _ (by split <;> (try split) <;> omega)]; exact h4 a
theorem SimA.put {nl nf : Nat} {C : Nat → Nat → Nat} {ld nm lw : Nat → Nat} {ns : Nat} {sb sm sp : Nat → Nat} {tl : Nat} {tb : Nat → Int32} {L L' : Nat} {I : mI} {R : mR} {I' : mI} (h : SimA nl nf C ld nm lw ns sb sm sp tl tb L L' I R I') {F t v : Nat} (hF : vF nl nf F) (ht : t < 22) (h21 : t = 21 → 12 ≤ F) (hv : okv t v) : SimA nl nf (mup C F t v) ld nm lw ns sb sm sp tl tb L L' (mup I (cid F + so t) (si t) (nI v)) R (mup I' (ma t) (mk F t) (nI v)) := by
  obtain ⟨⟨g1, g2, g3, g4⟩, ⟨x1, x2, x3, x4, x5⟩, h3, h4, ⟨m1, m2, m3, m4⟩, h6, h7, h8⟩ := h
  have hL := x1.L
  have s := so_le t ht
  have r : (3 ≤ cid F + so t ∧ cid F + so t ≤ 62) ∨ (66 ≤ cid F + so t ∧ cid F + so t ≤ 125) := by
    have := hF.lt
    unfold cid
    split <;> omega
  have q : 2 ≤ ma t ∧ ma t ≤ 5 := by unfold ma; split <;> omega
  exact ⟨⟨g1.put hF hv, g2, g3, g4⟩, ⟨x1, x2.cg (fun a k h => mup_ne _ _ (by omega)), x3.put ht, x4.cg (fun a k h => mup_ne _ _ (by omega)), x5.cg (fun a k h => mup_ne _ _ (by omega))⟩, h3.cg (fun a k h => mup_ne _ _ (by omega)), h4.cg (fun a k h => mup_ne _ _ (by omega)), ⟨m1.cg (fun k => mup_ne _ _ (by omega)), m2.put ht h21, m3.cg (fun a k h => mup_ne _ _ (by omega)), m4.cg (fun k _ => mup_ne _ _ (by omega))⟩, h6.cg (mup_ne _ _ (by omega)) (fun a k h => mup_ne _ _ (by omega)), h7.cg (mup_ne _ _ (by omega)) (fun k => mup_ne _ _ (by omega)), by rw [mup_ne _ _ (by omega), mup_ne _ _ (by omega)]; exact h8⟩
theorem card_case {nl nf : Nat} {C : Nat → Nat → Nat} {ld nm lw : Nat → Nat} {ns : Nat} {sb sm sp : Nat → Nat} {tl : Nat} {tb : Nat → Int32} {L L' : Nat} {I : mI} {R : mR} {I' : mI} (h : SimA nl nf C ld nm lw ns sb sm sp tl tb L L' I R I') (J J' : mJ) (x y : Int32) : (∃ s j, s < 2 ∧ vF nl nf (12 * s + j) ∧ j < 12 ∧ x = nI s ∧ y = nI j ∧ f_X8_cardOf kX 0 x y I J R = some (some (cid (12 * s + j))) ∧ f_X9_isFile kM 0 x y I' J' rM = some true) ∨ (f_X8_cardOf kX 0 x y I J R = some none ∧ f_X9_isFile kM 0 x y I' J' rM = some false) := by
  obtain ⟨-, ⟨x1, x2, -, -, -⟩, -, -, ⟨m1, -, -, -⟩, -, -, -⟩ := h
  obtain ⟨r0, r1, -, -, r4, -, -, -, -⟩ := x1.b
  have hn := x2.2.2
  by_cases e0 : x = 0
  · subst e0
    rcases argc y (show nl < 2 ^ 31 by omega) with ⟨j, j1, rfl⟩ | hy
    · refine Or.inl ⟨0, j, by decide, Or.inl ⟨by omega, by omega⟩, by omega, rfl, rfl, ?_, m_isFile_yes (s := 0) (by decide) hn.1 j1 J' m1.1⟩
      rw [f_X8_cardOf, if_pos rfl, if_pos q0, r0, Option.bind_some, if_pos q1, x_find_yes x1 x2 j1, Option.bind_some, show 12 * 0 + j = j by omega]
    · refine Or.inr ⟨?_, m_isFile_no (s := 0) (by decide) hn.1 J' m1.1 hy⟩
      rw [f_X8_cardOf, if_pos rfl, if_pos q0, r0, Option.bind_some, if_pos q1, x_find_no x1 x2 hy, Option.bind_some]
  · by_cases e1 : x = 1
    · subst e1
      rcases argc y (show nf < 2 ^ 31 by omega) with ⟨j, j1, rfl⟩ | hy
      · refine Or.inl ⟨1, j, by decide, Or.inr ⟨by omega, by omega, by omega⟩, by omega, rfl, rfl, ?_, m_isFile_yes (s := 1) (by decide) hn.2 j1 J' m1.2.1⟩
        rw [f_X8_cardOf, if_neg e0, if_pos rfl, if_pos q0, r1, Option.bind_some, if_pos q63, r4, Option.bind_some, if_pos q64, x_find1_yes x1 x2 j1, Option.bind_some]
      · refine Or.inr ⟨?_, m_isFile_no (s := 1) (by decide) hn.2 J' m1.2.1 hy⟩
        rw [f_X8_cardOf, if_neg e0, if_pos rfl, if_pos q0, r1, Option.bind_some, if_pos q63, r4, Option.bind_some, if_pos q64, x_find1_no x1 x2 hy, Option.bind_some]
    · refine Or.inr ⟨?_, m_isFile_side e0 e1 I' J'⟩
      rw [f_X8_cardOf, if_neg e0, if_neg e1]
theorem m_mends {s j t : Nat} (hs : s < 2) (hj : j < 12) (ht : t < 19) (v : Int32) (I : mI) (J : mJ) : f_X9_mends kM 0 (nI s) (nI j) (nI t) v I J rM = some (true, mup I (ma t) (mk (12 * s + j) t) v) := by
  have ix : (19 : Int32) * ((12 : Int32) * nI s + nI j) + nI t = nI (19 * (12 * s + j) + t) := by rw [show (12 : Int32) = nI 12 from rfl, show (19 : Int32) = nI 19 from rfl, pk_mul, nI_add, pk_mul, nI_add]
  rw [f_X9_mends, if_pos km0, rq1, Option.bind_some, ix, if_pos (mx _ km2 (by omega) (by decide)), Option.bind_some, nI_c (by omega)]
  unfold ma mk
  rw [if_pos ht, if_pos ht]
theorem imt {α : Type} (a b : α) : (if mb true = 0 then a else b) = b := if_neg (by decide)
theorem imf {α : Type} (a b : α) : (if mb false = 0 then a else b) = a := if_pos rfl
theorem mON_s {α : Type} (x : Nat) (a : α) (f : Nat → α) : mON (some x) a f = f x := rfl
theorem mON_n {α : Type} (a : α) (f : Nat → α) : mON none a f = a := rfl
theorem vF.k {nl nf F : Nat} (h : vF nl nf F) : kX (cid F) = (0, 1) := (isC_cid F h.lt).1
theorem s_sex {I : mI} {R : mR} {I' : mI} (h : Sim I R I') (J J' : mJ) (a1 a2 a3 : Int32) : ∃ v I1 I1', f_X8_sex kX 0 a1 a2 a3 I J R = some (v, I1) ∧ f_X9_sex kM 0 a1 a2 a3 I' J' rM = some (v, I1') ∧ Sim I1 R I1' := by
  obtain ⟨nl, nf, C, ld, nm, lw, ns, sb, sm, sp, tl, tb, L, L', h⟩ := h
  rcases card_case h J J' a1 a2 with ⟨s, j, s1, s2, s3, rfl, rfl, o1, o2⟩ | ⟨o1, o2⟩
  · by_cases z : (!decide (a3 < 0) && !decide (2 < a3)) = true
    · obtain ⟨v, v1, v2, rfl⟩ := inr (lo := 0) (hi := 2) (by decide) (by decide) z
      refine ⟨true, _, _, ?_, ?_, (h.put (t := 0) (v := v) s2 (by decide) (by omega) ⟨fun _ => v2, by omega, by omega, by omega, by omega, by omega, by omega⟩).s⟩
      · simp only [f_X8_sex, q0, if_true, o1, Option.bind_some, mON_s, x_win, z, imt, s2.k]
        rfl
      · simp only [f_X9_sex, km0, if_true, o2, Option.bind_some, m_isIn, z, imt]
        rw [show f_X9_mends kM 0 (nI s) (nI j) 0 (nI v) I' J' rM = _ from m_mends s1 s3 (show 0 < 19 by decide) _ I' J', Option.bind_some, imt]
    · have z : (!decide (a3 < 0) && !decide (2 < a3)) = false := by simpa using z
      refine ⟨false, _, _, ?_, ?_, h.s⟩
      · simp only [f_X8_sex, q0, if_true, o1, Option.bind_some, mON_s, x_win, z, imf]
      · simp only [f_X9_sex, km0, if_true, o2, Option.bind_some, m_isIn, z, imt, imf]
  · refine ⟨false, _, _, ?_, ?_, h.s⟩
    · simp only [f_X8_sex, q0, if_true, o1, Option.bind_some, mON_n]
    · simp only [f_X9_sex, km0, if_true, o2, Option.bind_some, imf]
