/-! ===== the memory of a system as typed slots by ids; worlds out of it ===== -/
abbrev mI : Type := Nat → Nat → Int32
abbrev mJ : Type := Nat → Nat → Int64
abbrev mR : Type := Nat → Nat → Option Nat
abbrev mK : Type := Nat → Nat × Nat
abbrev mG : Type := va_G × (Nat → Nat) × (Nat → ClassId) × (Nat → Nat) × (Nat → Nat)
/-- one slot of one id is written -/
def mup {α : Type} (f : Nat → Nat → α) (a k : Nat) (v : α) : Nat → Nat → α := fun i j => if i = a ∧ j = k then v else f i j
theorem mup_eq {α : Type} (f : Nat → Nat → α) (a k : Nat) (v : α) : mup f a k v a k = v := by simp [mup]
theorem mup_ne {α : Type} (f : Nat → Nat → α) {a k i j : Nat} (v : α) (h : ¬ (i = a ∧ j = k)) : mup f a k v i j = f i j := by simp [mup, h]
theorem mup_row {α : Type} (f : Nat → Nat → α) {a i : Nat} (k : Nat) (v : α) (h : i ≠ a) : mup f a k v i = f i := by
  funext j
  simp [mup, h]
/-- how many fields the objects of a class have; which of them are references -/
def mNF : Nat → Nat
  | 0 => 3 | 1 => 8 | 2 => 2 | 3 => 4 | 4 => 10 | 5 => 5 | 6 => 3 | 7 => 2 | 8 => 10 | _ => 23
def mTy : Nat → Nat → FieldType
  | 0 => tyX0 | 1 => tyX1 | 2 => tyX2 | 3 => tyX3 | 4 => tyX4 | 5 => tyX5 | 6 => tyX6 | 7 => tyX7 | 8 => tyX8 | _ => tyX9
def mIR (ci k : Nat) : Bool := (mTy ci k).isReference
def mFs (g : mG) (I : mI) (R : mR) (ci a : Nat) : List Value := (List.range (mNF ci)).map (fun k => if mIR ci k = true then va_rf ((R a k).map g.2.1) else .int (I a k))
def mE (g : mG) (K : mK) (I : mI) (J : mJ) (R : mR) (a : Nat) : va_E := match (K a).1 with
  | 0 => .inr ((K a).2, mFs g I R (K a).2 a)
  | 1 => .inl (g.2.2.1 1, (K a).2, .inl (I a))
  | 2 => .inl (g.2.2.1 2, (K a).2, .inl (I a))
  | 3 => .inl (g.2.2.1 3, (K a).2, .inl (I a))
  | 4 => .inl (g.2.2.1 4, (K a).2, .inr (.inl (J a)))
  | 5 => .inl (g.2.2.1 5, (K a).2, .inr (.inr (.inr (.inr (fun j => (R a j).map g.2.1)))))
  | 6 => .inl (g.2.2.1 6, (K a).2, .inr (.inr (.inr (.inr (fun j => (R a j).map g.2.1)))))
  | _ => .inl (g.2.2.1 7, (K a).2, .inr (.inr (.inr (.inr (fun j => (R a j).map g.2.1)))))
def mws (g : mG) (K : mK) (n : Nat) (I : mI) (J : mJ) (R : mR) : va_W := (List.range n).map (fun i => (g.2.1 i, mE g K I J R i))
def mTys (g : mG) : List (ClassId × FieldType) := [(g.2.2.1 1, .int), (g.2.2.1 2, .byte), (g.2.2.1 3, .boolean), (g.2.2.1 4, .long), (g.2.2.1 5, .object "NamedAgain$Card"), (g.2.2.1 6, .array .int), (g.2.2.1 7, .array .long)]
def mInj (g : mG) (n : Nat) : Prop := ∀ i j : Nat, i < n → j < n → g.2.1 i = g.2.1 j → i = j
def mA (g : mG) (n : Nat) : Nat → Prop := fun q => ∃ i, i < n ∧ q = g.2.1 i
def mOk (K : mK) (n : Nat) : Prop := ∀ a : Nat, (K a).1 < 8 → a < n
theorem mws_at {g : mG} {K : mK} {n : Nat} {I : mI} {J : mJ} {R : mR} {a : Nat} (h : a < n) : (mws g K n I J R)[a]? = some (g.2.1 a, mE g K I J R a) := by
  simp [mws, List.getElem?_map, List.getElem?_range h]
theorem mws_set {g : mG} {K : mK} {n : Nat} {I I' : mI} {J J' : mJ} {R R' : mR} {a : Nat} (ha : a < n) (h : ∀ i, i ≠ a → mE g K I' J' R' i = mE g K I J R i) : (mws g K n I J R).set a (g.2.1 a, mE g K I' J' R' a) = mws g K n I' J' R' := by
  apply List.ext_getElem?
  intro j
  have hlen : (mws g K n I J R).length = n := by simp [mws]
  by_cases hj : j = a
  · subst hj
    rw [List.getElem?_set_self (by rw [hlen]; exact ha), mws_at ha]
  · rw [List.getElem?_set_ne (Ne.symm hj)]
    by_cases hn : j < n
    · rw [mws_at hn, mws_at hn, h j hj]
    · rw [List.getElem?_eq_none (by rw [hlen]; omega), List.getElem?_eq_none (by simp [mws]; omega)]
theorem mws_D {g : mG} {K : mK} {n : Nat} {I : mI} {J : mJ} {R : mR} {A : Nat → Prop} (hJ : mInj g n) (hA : ∀ i, i < n → A (g.2.1 i)) : va_D A (mws g K n I J R) := by
  have key : ∀ (k : Nat) (q : Nat × va_E), (mws g K n I J R)[k]? = some q → k < n ∧ q.1 = g.2.1 k := by
    intro k q hk
    have hl := (List.getElem?_eq_some_iff.mp hk).1
    have hn : k < n := by simpa [mws] using hl
    rw [mws_at hn] at hk
    cases hk
    exact ⟨hn, rfl⟩
  refine ⟨fun i j x y hi hj e => ?_, fun k q hk => ?_⟩
  · obtain ⟨h1, e1⟩ := key i x hi
    obtain ⟨h2, e2⟩ := key j y hj
    exact hJ i j h1 h2 (by rw [← e1, ← e2]; exact e)
  · obtain ⟨h1, e1⟩ := key k q hk
    rw [e1]
    exact hA k h1
theorem mA_in {g : mG} {n i : Nat} (h : i < n) : mA g n (g.2.1 i) := ⟨i, h, rfl⟩
/-! entries when a slot is written -/
theorem mE_upI {g : mG} {K : mK} {I : mI} {J : mJ} {R : mR} {a k i : Nat} {x : Int32} (h : i ≠ a) : mE g K (mup I a k x) J R i = mE g K I J R i := by
  have e : mup I a k x i = I i := mup_row I k x h
  unfold mE mFs
  rw [e]
theorem mE_upJ {g : mG} {K : mK} {I : mI} {J : mJ} {R : mR} {a k i : Nat} {x : Int64} (h : i ≠ a) : mE g K I (mup J a k x) R i = mE g K I J R i := by
  have e : mup J a k x i = J i := mup_row J k x h
  unfold mE
  rw [e]
theorem mE_upR {g : mG} {K : mK} {I : mI} {J : mJ} {R : mR} {a k i : Nat} {x : Option Nat} (h : i ≠ a) : mE g K I J (mup R a k x) i = mE g K I J R i := by
  have e : mup R a k x i = R i := mup_row R k x h
  unfold mE mFs
  rw [e]
theorem mFs_at {g : mG} {I : mI} {R : mR} {ci a k : Nat} (h : k < mNF ci) : (mFs g I R ci a)[k]? = some (if mIR ci k = true then va_rf ((R a k).map g.2.1) else .int (I a k)) := by
  simp [mFs, List.getElem?_map, List.getElem?_range h]
theorem mFs_len {g : mG} {I : mI} {R : mR} {ci a : Nat} : (mFs g I R ci a).length = mNF ci := by simp [mFs]
theorem mFs_setI {g : mG} {I : mI} {R : mR} {ci a k : Nat} {x : Int32} (h : k < mNF ci) (hr : mIR ci k = false) : (mFs g I R ci a).set k (.int x) = mFs g (mup I a k x) R ci a := by
  apply List.ext_getElem?
  intro j
  by_cases hj : j = k
  · subst hj
    rw [List.getElem?_set_self (by rw [mFs_len]; exact h), mFs_at h, mup_eq]
    simp [hr]
  · rw [List.getElem?_set_ne (Ne.symm hj)]
    by_cases hn : j < mNF ci
    · rw [mFs_at hn, mFs_at hn, mup_ne _ _ (fun q => hj q.2)]
    · rw [List.getElem?_eq_none (by rw [mFs_len]; omega), List.getElem?_eq_none (by rw [mFs_len]; omega)]
theorem mFs_setR {g : mG} {I : mI} {R : mR} {ci a k : Nat} {x : Option Nat} (h : k < mNF ci) (hr : mIR ci k = true) : (mFs g I R ci a).set k (va_rf (x.map g.2.1)) = mFs g I (mup R a k x) ci a := by
  apply List.ext_getElem?
  intro j
  by_cases hj : j = k
  · subst hj
    rw [List.getElem?_set_self (by rw [mFs_len]; exact h), mFs_at h, mup_eq]
    simp [hr]
  · rw [List.getElem?_set_ne (Ne.symm hj)]
    by_cases hn : j < mNF ci
    · rw [mFs_at hn, mFs_at hn, mup_ne _ _ (fun q => hj q.2)]
    · rw [List.getElem?_eq_none (by rw [mFs_len]; omega), List.getElem?_eq_none (by rw [mFs_len]; omega)]
theorem mE0 {g : mG} {K : mK} {I : mI} {J : mJ} {R : mR} {a ci : Nat} (h : K a = (0, ci)) : mE g K I J R a = .inr (ci, mFs g I R ci a) := by simp [mE, h]
theorem mE1 {g : mG} {K : mK} {I : mI} {J : mJ} {R : mR} {a : Nat} (h : (K a).1 = 1) : mE g K I J R a = .inl (g.2.2.1 1, (K a).2, .inl (I a)) := by simp [mE, h]
theorem mE2 {g : mG} {K : mK} {I : mI} {J : mJ} {R : mR} {a : Nat} (h : (K a).1 = 2) : mE g K I J R a = .inl (g.2.2.1 2, (K a).2, .inl (I a)) := by simp [mE, h]
theorem mE3 {g : mG} {K : mK} {I : mI} {J : mJ} {R : mR} {a : Nat} (h : (K a).1 = 3) : mE g K I J R a = .inl (g.2.2.1 3, (K a).2, .inl (I a)) := by simp [mE, h]
theorem mE4 {g : mG} {K : mK} {I : mI} {J : mJ} {R : mR} {a : Nat} (h : (K a).1 = 4) : mE g K I J R a = .inl (g.2.2.1 4, (K a).2, .inr (.inl (J a))) := by simp [mE, h]
theorem mE5 {g : mG} {K : mK} {I : mI} {J : mJ} {R : mR} {a : Nat} (h : (K a).1 = 5) : mE g K I J R a = .inl (g.2.2.1 5, (K a).2, .inr (.inr (.inr (.inr (fun j => (R a j).map g.2.1))))) := by simp [mE, h]
theorem mE6 {g : mG} {K : mK} {I : mI} {J : mJ} {R : mR} {a : Nat} (h : (K a).1 = 6) : mE g K I J R a = .inl (g.2.2.1 6, (K a).2, .inr (.inr (.inr (.inr (fun j => (R a j).map g.2.1))))) := by simp [mE, h]
theorem mE7 {g : mG} {K : mK} {I : mI} {J : mJ} {R : mR} {a : Nat} (h : (K a).1 = 7) : mE g K I J R a = .inl (g.2.2.1 7, (K a).2, .inr (.inr (.inr (.inr (fun j => (R a j).map g.2.1))))) := by simp [mE, h]
theorem mup_self {I : mI} {a k : Nat} {x : Int32} : mup I a k x a = upd (I a) k x := by
  funext j
  simp [mup, upd]
theorem mup_selfJ {J : mJ} {a k : Nat} {x : Int64} : mup J a k x a = vp_updL (J a) k x := by
  funext j
  simp [mup, vp_updL]
/-! ===== the words: all good words of the tables, for every method the same ===== -/
def mT : List Cond := lw_tbl.filter goodWord
def mWs (y : MethodName) (cc : ByteArray) (mL : Nat) (ret : Option FieldType) : List Cond := Cond.code y cc mL ret :: mT
theorem mT_in {w : Cond} (h : w ∈ tables_1) (hg : goodWord w = true) : w ∈ mT := List.mem_filter.mpr ⟨List.mem_append_right _ h, hg⟩
theorem mT_sel {w : Cond} (h : w ∈ k2_sels lw_privs) (hg : goodWord w = true) : w ∈ mT := List.mem_filter.mpr ⟨List.mem_append_left _ h, hg⟩
theorem mT_at {w : Cond} (i : Nat) (h : tables_1[i]? = some w) (hg : goodWord w = true) : w ∈ mT := mT_in (List.mem_of_getElem? h) hg
theorem mT_sat {w : Cond} (i : Nat) (h : (k2_sels lw_privs)[i]? = some w) (hg : goodWord w = true) : w ∈ mT := mT_sel (List.mem_of_getElem? h) hg
theorem mT_good {ws : List Cond} (h : ∀ w ∈ ws, w ∈ mT) : GoodIn mT ws := fun w hw => ⟨h w hw, good_of_word (List.mem_filter.mp (h w hw)).2⟩
theorem mWs_in {y : MethodName} {cc : ByteArray} {mL : Nat} {ret : Option FieldType} (h : Cond.code y cc mL ret ∈ mT) : ∀ w ∈ mWs y cc mL ret, w ∈ mT := fun w hw => (List.mem_cons.mp hw).elim (fun e => e ▸ h) id
def mSk : Nat → Nat × String
  | 0 => (43, "tooth")
  | 1 => (86, "is")
  | 2 => (56, "mark")
  | 3 => (60, "tissue")
  | 4 => (64, "parent")
  | 5 => (73, "need")
  | 6 => (75, "margin")
  | _ => (77, "seals")
def mSl : List Nat := [5, 2, 4, 6, 6, 4, 6, 5]
def mSb : List (List Int32) := [[116, 111, 111, 116, 104], [105, 115], [109, 97, 114, 107], [116, 105, 115, 115, 117, 101], [112, 97, 114, 101, 110, 116], [110, 101, 101, 100], [109, 97, 114, 103, 105, 110], [115, 101, 97, 108, 115]]
def mNs : List (String × Nat) := [(RX1, 54), (RX3, 47), (RX5, 105)]
/-- what the worlds stand in: the nest's links, the text constants, String's own flag -/
def mZ (g : mG) (A : Nat → Prop) (U : State) (H : Heap) : Prop := (∀ q ∈ mNs, va_Nw (.methodLinkNest q.1 q.2 yX8_within "NamedAgain") U) ∧ (∀ i, i < 8 → vk_R RX5 (mSk i).1 (mSk i).2 (g.2.2.2.1 i) U) ∧ vk_S 8 mSl mSb g.2.2.2.1 g.2.2.2.2 A U H ∧ va_Z "java/lang/String" "COMPACT_STRINGS" "Z" (.int 1) A U H ∧ va_Zq "jdk/internal/util/Preconditions" "SIOOBE_FORMATTER" "Ljava/util/function/BiFunction;" A U H
theorem mZ_blind {g : mG} {A : Nat → Prop} {U U' : State} (hv : U'.vm = U.vm) (h : mZ g A U U.heap) : mZ g A U' U.heap := by
  obtain ⟨h1, h2, h3, h4, h5⟩ := h
  have ha : U.vm.Alike U'.vm := by rw [hv]; exact Vm.Alike.refl _
  exact ⟨fun q hq => va_Nw.same rfl hv.symm (h1 q hq), fun i hi => vk_R.same hv (h2 i hi), vk_S.moved ha h3, va_Z.moved ha h4, va_Zq.moved ha h5⟩
theorem mZ_go {g : mG} {A : Nat → Prop} {s U : State} {H : Heap} (h : mZ g A s s.heap) (hW : s.WarmedH U.vm) (hH : U.heap = H) (hS : ∀ q : Nat, q < s.heap.size → ¬ A q → H[q]? = s.heap[q]?) : mZ g A U U.heap := by
  obtain ⟨h1, h2, h3, h4, h5⟩ := h
  rw [hH]
  exact ⟨fun q hq => va_Nw.warmM hW (h1 q hq), fun i hi => vk_R.warm hW (h2 i hi), vk_S.moved hW.alike (h3.kept hS), va_Z.moved hW.alike (h4.kept hS), va_Zq.moved hW.alike (h5.kept hS)⟩
/-! ===== contracts: no cell is made ===== -/
def mB (g : mG) (K : mK) (n : Nat) (I : mI) (J : mJ) (R : mR) (U : State) : Prop := va_P g.1 vwCl (mws g K n I J R) U.heap ∧ va_K g.1 vwCl (mTys g) U ∧ mZ g (mA g n) U U.heap
def mQ (g : mG) (K : mK) (n : Nat) (rv : Option Value) (I : mI) (J : mJ) (R : mR) : Array Value → State → Outcome → State → Prop := fun _ st oc t => oc = .returned rv ∧ va_P g.1 vwCl (mws g K n I J R) t.heap ∧ va_F (mA g n) st t
def mHp (g : mG) (K : mK) (n : Nat) (s : State) (I : mI) (J : mJ) (R : mR) (H : Heap) (locs : List Loc) : Prop := va_P g.1 vwCl (mws g K n I J R) H ∧ va_S (mA g n) s.heap H locs
def mFix (p : Program) (m : MethodId) (c : Code) (cc : ByteArray) (nL : Nat) (s : State) (args : Array Value) (own : String) (g : mG) (K : mK) (n : Nat) : Prop := CallFix p m c cc nL s args mT own ∧ va_K g.1 vwCl (mTys g) s ∧ mInj g n ∧ mOk K n ∧ mZ g (mA g n) s s.heap
theorem mB_blind {g : mG} {K : mK} {n : Nat} {I : mI} {J : mJ} {R : mR} {av : List Value} : FrameBlind (va_Pc av (mB g K n I J R)) := fun a U gg mk q => by
  obtain ⟨q0, qP, qK, qZ⟩ := q
  exact ⟨q0, qP, va_K.moved (u := U) (U := U.calling gg mk a) (Vm.Alike.refl U.vm) qK, mZ_blind (U := U) (U' := U.calling gg mk a) rfl qZ⟩
/-- a method's contract out of its walk -/
theorem mStart {l : Launch} {g : mG} {K : mK} {n : Nat} {I I' : mI} {J J' : mJ} {R R' : mR} {y : MethodName} {cc : ByteArray} {mL : Nat} {ret : Option FieldType} {rm : Room} {av : List Value} {rv : Option Value} (own : String) (hJ : mInj g n) (hO : mOk K n) (hy : plainName y.cls = true) (ho : y.cls = own) (ha : (lg_sl av).length ≤ mL)
    (body : ∀ (p : Program) (e : Env) (s : State) (m : MethodId) (below : List Frame) (meth : Method) (c : Code) (ls : Array Slot) (Qm : State → Prop), Qm = MQ below (mQ g K n rv I' J' R') av.toArray s 0 0 (mA g n) → mFix p m c cc mL s av.toArray own g K n → meth.sig.returnType = ret → meth.locks = false → mHp g K n s I J R s.heap [] → lv_has ls mL (lv_args 0 av) →
      W p l e rm s m av.toArray below meth c s.heap [] 0 0 Qm (F0 m 0 ls [])) : Met l y (mWs y cc mL ret) rm (va_Pc av (mB g K n I J R)) (mQ g K n rv I' J' R') 0 0 (mA g n) := by
  refine Met.ofW (cc := cc) (maxL := mL) (ret := ret) hy rfl ?_
  intro p e s m args below meth c s₁ B hml hv
  obtain ⟨rfl, hP, hK, hZ⟩ := hv
  have hts := atoms_spec (ws := mWs y cc mL ret) B.pre
  have hown : s.vm.findClass y.cls = some m.cls := findClass_of_methodNamed B.named
  rw [lg_entry_eq]
  exact body p e s m below meth c _ _ rfl ⟨⟨B.exec, B.bytes, hml, ho ▸ hown, fun w hw => hts w (List.mem_cons_of_mem _ hw)⟩, hK, hJ, hO, hZ⟩ B.returns B.notSynchronized ⟨hP, va_S.rf⟩ (lv_entry av ha)
/-! ===== what f says ===== -/
theorem mBind {α β : Type} {o : Option α} {k : α → Option β} {v : β} (h : o.bind k = some v) : ∃ x, o = some x ∧ k x = some v := by
  cases o with
  | none => cases h
  | some x => exact ⟨x, rfl, h⟩
theorem mLet {α β : Type} {e : α} {k : α → Option β} {v : β} (h : (some e).bind k = some v) : ∃ x, x = e ∧ k x = some v := ⟨e, rfl, h⟩
theorem mChk {α : Type} {c : Prop} {i : Decidable c} {a : Option α} {v : α} (h : (@ite (Option α) c i a none) = some v) : c ∧ a = some v := by
  by_cases hc : c
  · rw [if_pos hc] at h
    exact ⟨hc, h⟩
  · rw [if_neg hc] at h
    cases h
theorem mT1 {α : Type} {c : Prop} {i : Decidable c} {a b v : α} (hc : c) (h : (@ite α c i a b) = v) : a = v := by rw [if_pos hc] at h; exact h
theorem mF1 {α : Type} {c : Prop} {i : Decidable c} {a b v : α} (hc : ¬ c) (h : (@ite α c i a b) = v) : b = v := by rw [if_neg hc] at h; exact h
/-- an int that is a boolean -/
def mb (b : Bool) : Int32 := if b = true then 1 else 0
theorem mb_nar (b : Bool) : narrow .boolean (.int (mb b)) = .int (mb b) := by cases b <;> rfl
/-- a reference is null or not -/
def mON {α : Type} (r : Option Nat) (a : α) (f : Nat → α) : α := match r with
  | none => a
  | some x => f x
/-- an index into an array of a kind -/
abbrev mIx (K : mK) (a q : Nat) (i : Int32) : Prop := (K a).1 = q ∧ 0 ≤ i.toInt ∧ i.toInt < ((K a).2 : Int)
theorem mIx_in {K : mK} {a q : Nat} {i : Int32} (h : mIx K a q i) : vp_in i (K a).2 := vp_in_iff.mpr h.2
/-! ===== rows ===== -/
def mFl (own : String) (index ci k : Nat) (C : String) (T : u_T) (N : Nat) : Prop := vwCl[ci]? = some (C, T, N) ∧ k < N ∧ mNF ci = N ∧ Cond.fieldLink own index (T k).1 (T k).2.1 (T k).2.2.1 ∈ mT ∧ ∀ w ∈ u_ws C T N, w ∈ mT
def mPu (own : String) (index ci k : Nat) (C : String) (T : u_T) (N : Nat) (ty0 : Nat → FieldType) (ty : FieldType) (fin : Bool) : Prop := mFl own index ci k C T N ∧ (∀ k, k < N → parseFieldDescriptor (T k).2.2.1 = some (ty0 k)) ∧ (∀ a, a < N → ∀ b, b < N → a ≠ b → (T a).2.1 ≠ (T b).2.1) ∧ (T k).2.2.2 = fin ∧ parseFieldDescriptor (T k).2.2.1 = some ty
section MROW
variable {p : Program} {l : Launch} {e : Env} {Rm : Room} {s : State} {m : MethodId} {args : Array Value} {below : List Frame} {meth : Method} {c : Code} {H : Heap} {locs : List Loc} {cells slots : Nat} {Q : State → Prop}
variable {cc : ByteArray} {pc : Nat} {ls : Array Slot} {rest : List Value} {own : String} {nL : Nat} {g : mG} {K : mK} {n : Nat} {I : mI} {J : mJ} {R : mR}
theorem mgi (B : mFix p m c cc nL s args own g K n) (hw : mHp g K n s I J R H locs) {index ci k N : Nat} {C : String} {T : u_T} (F : mFl own index ci k C T N) (hr : mIR ci k = false) {a : Nat} (ha : K a = (0, ci)) (hdg : decode cc pc = .ok (.getfield index, 3))
    (kk : W p l e Rm s m args below meth c H locs cells slots Q (F0 m (pc + 3) ls (.int (I a k) :: rest))) : W p l e Rm s m args below meth c H locs cells slots Q (F0 m pc ls (.ref (g.2.1 a) :: rest)) := by
  obtain ⟨S, hK, hJ, hO, hZ⟩ := B
  obtain ⟨f1, f2, f3, f4, f5⟩ := F
  have hn : a < n := hO a (by rw [ha]; exact (by decide : 0 < 8))
  have he := mws_at (g := g) (K := K) (I := I) (J := J) (R := R) hn
  rw [mE0 ha] at he
  refine va_get S.1 S.2.1 S.2.2.2.2 f5 S.2.2.2.1 hK hw.1 a he f1 k f2 (S.2.2.2.2 _ f4) (fun _ h => h) (v := .int (I a k)) ?_ hdg kk
  rw [mFs_at (by rw [f3]; exact f2)]
  simp [hr]
theorem mgr (B : mFix p m c cc nL s args own g K n) (hw : mHp g K n s I J R H locs) {index ci k N : Nat} {C : String} {T : u_T} (F : mFl own index ci k C T N) (hr : mIR ci k = true) {a x : Nat} (ha : K a = (0, ci)) (hx : R a k = some x) (hdg : decode cc pc = .ok (.getfield index, 3))
    (kk : W p l e Rm s m args below meth c H locs cells slots Q (F0 m (pc + 3) ls (.ref (g.2.1 x) :: rest))) : W p l e Rm s m args below meth c H locs cells slots Q (F0 m pc ls (.ref (g.2.1 a) :: rest)) := by
  obtain ⟨S, hK, hJ, hO, hZ⟩ := B
  obtain ⟨f1, f2, f3, f4, f5⟩ := F
  have hn : a < n := hO a (by rw [ha]; exact (by decide : 0 < 8))
  have he := mws_at (g := g) (K := K) (I := I) (J := J) (R := R) hn
  rw [mE0 ha] at he
  refine va_get S.1 S.2.1 S.2.2.2.2 f5 S.2.2.2.1 hK hw.1 a he f1 k f2 (S.2.2.2.2 _ f4) (fun _ h => h) (v := .ref (g.2.1 x)) ?_ hdg kk
  rw [mFs_at (by rw [f3]; exact f2), hx]
  simp [hr, va_rf]
theorem mpi (B : mFix p m c cc nL s args own g K n) (hw : mHp g K n s I J R H locs) {index ci k N : Nat} {C : String} {T : u_T} {ty0 : Nat → FieldType} (F : mPu own index ci k C T N ty0 .int false) (hr : mIR ci k = false) {a : Nat} (ha : K a = (0, ci)) {x : Int32} (hdg : decode cc pc = .ok (.putfield index, 3))
    (kk : ∀ (H1 : Heap) (locs1 : List Loc), mHp g K n s (mup I a k x) J R H1 locs1 → W p l e Rm s m args below meth c H1 locs1 cells slots Q (F0 m (pc + 3) ls rest)) : W p l e Rm s m args below meth c H locs cells slots Q (F0 m pc ls (.int x :: .ref (g.2.1 a) :: rest)) := by
  obtain ⟨S, hK, hJ, hO, hZ⟩ := B
  obtain ⟨⟨f1, f2, f3, f4, f5⟩, p1, p2, p3, p4⟩ := F
  have hn : a < n := hO a (by rw [ha]; exact (by decide : 0 < 8))
  have he := mws_at (g := g) (K := K) (I := I) (J := J) (R := R) hn
  rw [mE0 ha] at he
  have hkn : k < mNF ci := by rw [f3]; exact f2
  refine va_put S.1 S.2.1 S.2.2.2.2 f5 ty0 p1 p2 S.2.2.2.1 hK hw.1 (mws_D hJ (fun i hi => mA_in hi)) hw.2 a he f1 k f2 (S.2.2.2.2 _ f4) (fun _ h => h) p3 (v := .int x) p4 (vp_nar_int x) rfl (by rw [mFs_len]; exact hkn) hdg (fun H1 locs1 hP _ hS => kk H1 locs1 ⟨?_, hS⟩)
  rw [mFs_setI hkn hr, ← mE0 (J := J) ha, mws_set hn (fun i hi => mE_upI hi)] at hP
  exact hP
theorem mpr (B : mFix p m c cc nL s args own g K n) (hw : mHp g K n s I J R H locs) {index ci k N : Nat} {C : String} {T : u_T} {ty0 : Nat → FieldType} {ty : FieldType} (F : mPu own index ci k C T N ty0 ty false) (hr : mIR ci k = true) {a x : Nat} (ha : K a = (0, ci)) (hn1 : narrow ty (.ref (g.2.1 x)) = .ref (g.2.1 x)) (hn2 : fits ty (.ref (g.2.1 x)) = true) (hdg : decode cc pc = .ok (.putfield index, 3))
    (kk : ∀ (H1 : Heap) (locs1 : List Loc), mHp g K n s I J (mup R a k (some x)) H1 locs1 → W p l e Rm s m args below meth c H1 locs1 cells slots Q (F0 m (pc + 3) ls rest)) : W p l e Rm s m args below meth c H locs cells slots Q (F0 m pc ls (.ref (g.2.1 x) :: .ref (g.2.1 a) :: rest)) := by
  obtain ⟨S, hK, hJ, hO, hZ⟩ := B
  obtain ⟨⟨f1, f2, f3, f4, f5⟩, p1, p2, p3, p4⟩ := F
  have hn : a < n := hO a (by rw [ha]; exact (by decide : 0 < 8))
  have he := mws_at (g := g) (K := K) (I := I) (J := J) (R := R) hn
  rw [mE0 ha] at he
  have hkn : k < mNF ci := by rw [f3]; exact f2
  refine va_put S.1 S.2.1 S.2.2.2.2 f5 ty0 p1 p2 S.2.2.2.1 hK hw.1 (mws_D hJ (fun i hi => mA_in hi)) hw.2 a he f1 k f2 (S.2.2.2.2 _ f4) (fun _ h => h) p3 (v := .ref (g.2.1 x)) p4 hn1 hn2 (by rw [mFs_len]; exact hkn) hdg (fun H1 locs1 hP _ hS => kk H1 locs1 ⟨?_, hS⟩)
  rw [show (Value.ref (g.2.1 x)) = va_rf ((some x).map g.2.1) from rfl, mFs_setR hkn hr, ← mE0 (J := J) ha, mws_set hn (fun i hi => mE_upR hi)] at hP
  exact hP
theorem mld1 (B : mFix p m c cc nL s args own g K n) (hw : mHp g K n s I J R H locs) {a : Nat} {i : Int32} (ha : mIx K a 1 i) (hdg : decode cc pc = .ok (.iaload, 1))
    (kk : W p l e Rm s m args below meth c H locs cells slots Q (F0 m (pc + 1) ls (.int (I a i.toNatClampNeg) :: rest))) : W p l e Rm s m args below meth c H locs cells slots Q (F0 m pc ls (.int i :: .ref (g.2.1 a) :: rest)) := by
  obtain ⟨S, hK, hJ, hO, hZ⟩ := B
  have hn : a < n := hO a (by rw [ha.1]; decide)
  have he := mws_at (g := g) (K := K) (I := I) (J := J) (R := R) hn
  rw [mE1 ha.1] at he
  exact va_iald S.1 S.2.1 hK hw.1 a 0 he rfl (mIx_in ha) hdg kk
theorem mld2 (B : mFix p m c cc nL s args own g K n) (hw : mHp g K n s I J R H locs) {a : Nat} {i : Int32} (ha : mIx K a 2 i) (hdg : decode cc pc = .ok (.baload, 1))
    (kk : W p l e Rm s m args below meth c H locs cells slots Q (F0 m (pc + 1) ls (.int (I a i.toNatClampNeg) :: rest))) : W p l e Rm s m args below meth c H locs cells slots Q (F0 m pc ls (.int i :: .ref (g.2.1 a) :: rest)) := by
  obtain ⟨S, hK, hJ, hO, hZ⟩ := B
  have hn : a < n := hO a (by rw [ha.1]; decide)
  have he := mws_at (g := g) (K := K) (I := I) (J := J) (R := R) hn
  rw [mE2 ha.1] at he
  exact va_bald S.1 S.2.1 hK hw.1 a 1 he rfl (mIx_in ha) hdg kk
theorem mld3 (B : mFix p m c cc nL s args own g K n) (hw : mHp g K n s I J R H locs) {a : Nat} {i : Int32} (ha : mIx K a 3 i) (hdg : decode cc pc = .ok (.baload, 1))
    (kk : W p l e Rm s m args below meth c H locs cells slots Q (F0 m (pc + 1) ls (.int (I a i.toNatClampNeg) :: rest))) : W p l e Rm s m args below meth c H locs cells slots Q (F0 m pc ls (.int i :: .ref (g.2.1 a) :: rest)) := by
  obtain ⟨S, hK, hJ, hO, hZ⟩ := B
  have hn : a < n := hO a (by rw [ha.1]; decide)
  have he := mws_at (g := g) (K := K) (I := I) (J := J) (R := R) hn
  rw [mE3 ha.1] at he
  exact va_zald S.1 S.2.1 hK hw.1 a 2 he rfl (mIx_in ha) hdg kk
theorem mld4 (B : mFix p m c cc nL s args own g K n) (hw : mHp g K n s I J R H locs) {a : Nat} {i : Int32} (ha : mIx K a 4 i) (hdg : decode cc pc = .ok (.laload, 1))
    (kk : W p l e Rm s m args below meth c H locs cells slots Q (F0 m (pc + 1) ls (.long (J a i.toNatClampNeg) :: rest))) : W p l e Rm s m args below meth c H locs cells slots Q (F0 m pc ls (.int i :: .ref (g.2.1 a) :: rest)) := by
  obtain ⟨S, hK, hJ, hO, hZ⟩ := B
  have hn : a < n := hO a (by rw [ha.1]; decide)
  have he := mws_at (g := g) (K := K) (I := I) (J := J) (R := R) hn
  rw [mE4 ha.1] at he
  exact va_lald S.1 S.2.1 hK hw.1 a 3 he rfl (mIx_in ha) hdg kk
theorem mld5 (B : mFix p m c cc nL s args own g K n) (hw : mHp g K n s I J R H locs) {a x : Nat} {i : Int32} (ha : mIx K a 5 i) (hx : R a i.toNatClampNeg = some x) (hdg : decode cc pc = .ok (.aaload, 1))
    (kk : W p l e Rm s m args below meth c H locs cells slots Q (F0 m (pc + 1) ls (.ref (g.2.1 x) :: rest))) : W p l e Rm s m args below meth c H locs cells slots Q (F0 m pc ls (.int i :: .ref (g.2.1 a) :: rest)) := by
  obtain ⟨S, hK, hJ, hO, hZ⟩ := B
  have hn : a < n := hO a (by rw [ha.1]; decide)
  have he := mws_at (g := g) (K := K) (I := I) (J := J) (R := R) hn
  rw [mE5 ha.1] at he
  refine va_aldq S.1 S.2.1 hK hw.1 a 4 he rfl (mIx_in ha) hdg ?_
  rw [hx]
  exact kk
theorem mldA (B : mFix p m c cc nL s args own g K n) (hw : mHp g K n s I J R H locs) {q : Nat} {ty : FieldType} (t0 : Nat) (hq : q < 8) (ht : (mTys g)[t0]? = some (g.2.2.1 q, .array ty)) (hE : ∀ {a : Nat}, (K a).1 = q → mE g K I J R a = .inl (g.2.2.1 q, (K a).2, .inr (.inr (.inr (.inr (fun j => (R a j).map g.2.1)))))) {a x : Nat} {i : Int32} (ha : mIx K a q i) (hx : R a i.toNatClampNeg = some x) (hdg : decode cc pc = .ok (.aaload, 1))
    (kk : W p l e Rm s m args below meth c H locs cells slots Q (F0 m (pc + 1) ls (.ref (g.2.1 x) :: rest))) : W p l e Rm s m args below meth c H locs cells slots Q (F0 m pc ls (.int i :: .ref (g.2.1 a) :: rest)) := by
  obtain ⟨S, hK, hJ, hO, hZ⟩ := B
  have hn : a < n := hO a (by rw [ha.1]; exact hq)
  have he := mws_at (g := g) (K := K) (I := I) (J := J) (R := R) hn
  rw [hE ha.1] at he
  have hin := mIx_in ha
  have hlt : i.toNatClampNeg < (K a).2 := Nat.not_le.mp fun q => hin (Or.inr q)
  refine W.aald (v := va_rf ((R a i.toNatClampNeg).map g.2.1)) (ty := .array ty) S.1 S.2.1 (hw.1 a _ he) ((hK.2 t0 _ ht).1 (K a).2 (fun j => va_rf ((R a j).map g.2.1))) rfl (fun q => by cases q) (by show ¬ (i < 0 ∨ (arrV _ _ _).slots.size ≤ _); rw [arrV_size]; exact hin) (by show (arrV _ _ _).slots[_]? = _; rw [arrV_read _ _ hlt]) rfl rfl hdg ?_
  rw [hx]
  exact kk
theorem mld6 (B : mFix p m c cc nL s args own g K n) (hw : mHp g K n s I J R H locs) {a x : Nat} {i : Int32} (ha : mIx K a 6 i) (hx : R a i.toNatClampNeg = some x) (hdg : decode cc pc = .ok (.aaload, 1))
    (kk : W p l e Rm s m args below meth c H locs cells slots Q (F0 m (pc + 1) ls (.ref (g.2.1 x) :: rest))) : W p l e Rm s m args below meth c H locs cells slots Q (F0 m pc ls (.int i :: .ref (g.2.1 a) :: rest)) := mldA (ty := .int) B hw 5 (by decide) rfl (fun h => mE6 h) ha hx hdg kk
theorem mld7 (B : mFix p m c cc nL s args own g K n) (hw : mHp g K n s I J R H locs) {a x : Nat} {i : Int32} (ha : mIx K a 7 i) (hx : R a i.toNatClampNeg = some x) (hdg : decode cc pc = .ok (.aaload, 1))
    (kk : W p l e Rm s m args below meth c H locs cells slots Q (F0 m (pc + 1) ls (.ref (g.2.1 x) :: rest))) : W p l e Rm s m args below meth c H locs cells slots Q (F0 m pc ls (.int i :: .ref (g.2.1 a) :: rest)) := mldA (ty := .long) B hw 6 (by decide) rfl (fun h => mE7 h) ha hx hdg kk
theorem mst1 (B : mFix p m c cc nL s args own g K n) (hw : mHp g K n s I J R H locs) {a : Nat} {i x : Int32} (ha : mIx K a 1 i) (hdg : decode cc pc = .ok (.iastore, 1))
    (kk : ∀ (H1 : Heap) (locs1 : List Loc), mHp g K n s (mup I a i.toNatClampNeg x) J R H1 locs1 → W p l e Rm s m args below meth c H1 locs1 cells slots Q (F0 m (pc + 1) ls rest)) : W p l e Rm s m args below meth c H locs cells slots Q (F0 m pc ls (.int x :: .int i :: .ref (g.2.1 a) :: rest)) := by
  obtain ⟨S, hK, hJ, hO, hZ⟩ := B
  have hn : a < n := hO a (by rw [ha.1]; decide)
  have he := mws_at (g := g) (K := K) (I := I) (J := J) (R := R) hn
  rw [mE1 ha.1] at he
  refine va_iast S.1 S.2.1 hK hw.1 (mws_D hJ (fun i hi => mA_in hi)) hw.2 a 0 he rfl (mIx_in ha) hdg (fun H1 locs1 hP _ hS => kk H1 locs1 ⟨?_, hS⟩)
  rw [← mup_self, ← mE1 (J := J) (R := R) ha.1, mws_set hn (fun i hi => mE_upI hi)] at hP
  exact hP
theorem mst2 (B : mFix p m c cc nL s args own g K n) (hw : mHp g K n s I J R H locs) {a : Nat} {i x : Int32} (ha : mIx K a 2 i) (hdg : decode cc pc = .ok (.bastore, 1))
    (kk : ∀ (H1 : Heap) (locs1 : List Loc), mHp g K n s (mup I a i.toNatClampNeg x.toInt8.toInt32) J R H1 locs1 → W p l e Rm s m args below meth c H1 locs1 cells slots Q (F0 m (pc + 1) ls rest)) : W p l e Rm s m args below meth c H locs cells slots Q (F0 m pc ls (.int x :: .int i :: .ref (g.2.1 a) :: rest)) := by
  obtain ⟨S, hK, hJ, hO, hZ⟩ := B
  have hn : a < n := hO a (by rw [ha.1]; decide)
  have he := mws_at (g := g) (K := K) (I := I) (J := J) (R := R) hn
  rw [mE2 ha.1] at he
  refine va_bast S.1 S.2.1 hK hw.1 (mws_D hJ (fun i hi => mA_in hi)) hw.2 a 1 he rfl (mIx_in ha) hdg (fun H1 locs1 hP _ hS => kk H1 locs1 ⟨?_, hS⟩)
  rw [vp_nar_byte, ← mup_self, ← mE2 (J := J) (R := R) ha.1, mws_set hn (fun i hi => mE_upI hi)] at hP
  exact hP
theorem mst3 (B : mFix p m c cc nL s args own g K n) (hw : mHp g K n s I J R H locs) {a : Nat} {i : Int32} {x : Bool} (ha : mIx K a 3 i) (hdg : decode cc pc = .ok (.bastore, 1))
    (kk : ∀ (H1 : Heap) (locs1 : List Loc), mHp g K n s (mup I a i.toNatClampNeg (mb x)) J R H1 locs1 → W p l e Rm s m args below meth c H1 locs1 cells slots Q (F0 m (pc + 1) ls rest)) : W p l e Rm s m args below meth c H locs cells slots Q (F0 m pc ls (.int (mb x) :: .int i :: .ref (g.2.1 a) :: rest)) := by
  obtain ⟨S, hK, hJ, hO, hZ⟩ := B
  have hn : a < n := hO a (by rw [ha.1]; decide)
  have he := mws_at (g := g) (K := K) (I := I) (J := J) (R := R) hn
  rw [mE3 ha.1] at he
  refine va_zast S.1 S.2.1 hK hw.1 (mws_D hJ (fun i hi => mA_in hi)) hw.2 a 2 he rfl (mIx_in ha) hdg (fun H1 locs1 hP _ hS => kk H1 locs1 ⟨?_, hS⟩)
  rw [show vp_nar .boolean (mb x) = mb x by unfold vp_nar; rw [mb_nar], ← mup_self, ← mE3 (J := J) (R := R) ha.1, mws_set hn (fun i hi => mE_upI hi)] at hP
  exact hP
theorem mst4 (B : mFix p m c cc nL s args own g K n) (hw : mHp g K n s I J R H locs) {a : Nat} {i : Int32} {x : Int64} (ha : mIx K a 4 i) (hdg : decode cc pc = .ok (.lastore, 1))
    (kk : ∀ (H1 : Heap) (locs1 : List Loc), mHp g K n s I (mup J a i.toNatClampNeg x) R H1 locs1 → W p l e Rm s m args below meth c H1 locs1 cells slots Q (F0 m (pc + 1) ls rest)) : W p l e Rm s m args below meth c H locs cells slots Q (F0 m pc ls (.long x :: .int i :: .ref (g.2.1 a) :: rest)) := by
  obtain ⟨S, hK, hJ, hO, hZ⟩ := B
  have hn : a < n := hO a (by rw [ha.1]; decide)
  have he := mws_at (g := g) (K := K) (I := I) (J := J) (R := R) hn
  rw [mE4 ha.1] at he
  refine va_last S.1 S.2.1 hK hw.1 (mws_D hJ (fun i hi => mA_in hi)) hw.2 a 3 he rfl (mIx_in ha) hdg (fun H1 locs1 hP _ hS => kk H1 locs1 ⟨?_, hS⟩)
  rw [← mup_selfJ, ← mE4 (I := I) (R := R) ha.1, mws_set hn (fun i hi => mE_upJ hi)] at hP
  exact hP
theorem mlen (B : mFix p m c cc nL s args own g K n) (hw : mHp g K n s I J R H locs) {a q : Nat} {x : vp_A} {ty : FieldType} (t0 : Nat) (hq : q < 8) (hl : x.1 = (K a).2) (hE : mE g K I J R a = .inl (g.2.2.1 q, x)) (ht : (mTys g)[t0]? = some (g.2.2.1 q, ty)) (ha : (K a).1 = q) (hdg : decode cc pc = .ok (.arraylength, 1))
    (kk : W p l e Rm s m args below meth c H locs cells slots Q (F0 m (pc + 1) ls (.int (nI (K a).2) :: rest))) : W p l e Rm s m args below meth c H locs cells slots Q (F0 m pc ls (.ref (g.2.1 a) :: rest)) := by
  obtain ⟨S, hK, hJ, hO, hZ⟩ := B
  have hn : a < n := hO a (by rw [ha]; exact hq)
  have he := mws_at (g := g) (K := K) (I := I) (J := J) (R := R) hn
  rw [hE] at he
  exact va_alen S.1 S.2.1 hK hw.1 a t0 he ht (by rw [hl]; rfl) hdg kk
theorem mlen1 (B : mFix p m c cc nL s args own g K n) (hw : mHp g K n s I J R H locs) {a : Nat} (ha : (K a).1 = 1) (hdg : decode cc pc = .ok (.arraylength, 1))
    (kk : W p l e Rm s m args below meth c H locs cells slots Q (F0 m (pc + 1) ls (.int (nI (K a).2) :: rest))) : W p l e Rm s m args below meth c H locs cells slots Q (F0 m pc ls (.ref (g.2.1 a) :: rest)) := mlen B hw 0 (by decide) rfl (mE1 ha) rfl ha hdg kk
theorem mlen2 (B : mFix p m c cc nL s args own g K n) (hw : mHp g K n s I J R H locs) {a : Nat} (ha : (K a).1 = 2) (hdg : decode cc pc = .ok (.arraylength, 1))
    (kk : W p l e Rm s m args below meth c H locs cells slots Q (F0 m (pc + 1) ls (.int (nI (K a).2) :: rest))) : W p l e Rm s m args below meth c H locs cells slots Q (F0 m pc ls (.ref (g.2.1 a) :: rest)) := mlen B hw 1 (by decide) rfl (mE2 ha) rfl ha hdg kk
/-- behind a call that makes no cell -/
theorem mgo {I' : mI} {J' : mJ} {R' : mR} {rv : Option Value} {st0 : List Value} {a : Array Value} (hw : mHp g K n s I J R H locs) (hr : va_Run p l e Rm s m args below meth c H locs cells slots 0 0 (F0 m pc ls st0) rest (mQ g K n rv I' J' R' a) (mA g n))
    (kk : ∀ (H1 : Heap) (locs1 : List Loc), mHp g K n s I' J' R' H1 locs1 → W p l e Rm s m args below meth c H1 locs1 cells slots Q (F0 m (pc + 3) ls (rv.toList ++ rest))) : W p l e Rm s m args below meth c H locs cells slots Q (F0 m pc ls st0) := by
  intro T hT X
  obtain ⟨v, st₀, t, T', L, h0, X', hL, e1, e2, ⟨hv, hP', hz, hk⟩, st⟩ := hr T hT X
  cases hv
  rw [h0] at hz hk
  obtain ⟨-, hS⟩ := hw
  obtain ⟨t2, a1, b1⟩ := kk T'.heap (locs ++ L) ⟨by rw [e1]; exact hP', Nat.le_trans hS.1 (by rw [e1]; exact hz), fun q h1 h2 => by rw [e1, hk q (Nat.lt_of_lt_of_le h1 hS.1) h2]; exact hS.2.1 q h1 h2, fun q hq => by
      rcases List.mem_append.mp hq with h | h
      · exact hS.2.2 q h
      · exact hL q h⟩ T' rfl X'
  exact ⟨t2, st t2 a1, b1⟩
/-- the links of a call: what the tables say -/
def mCV (own : String) (index : Nat) (C : String) (y : MethodName) (cc' : ByteArray) (mL : Nat) (ret : Option FieldType) (k : Nat) : Prop := Cond.methodLink own index y ∈ mT ∧ Cond.instanceMethod y ∈ mT ∧ Cond.selects C y y ∈ mT ∧ Cond.initialized C ∈ mT ∧ Cond.code y cc' mL ret ∈ mT ∧ (y.cls = C ∧ y.cls ≠ "java/lang/invoke/MethodHandle" ∧ y.cls ≠ "java/lang/invoke/VarHandle" ∧ (parseMethodDescriptor y.desc).map (fun d => d.parameters.length) = some k)
def mCS (own : String) (index : Nat) (y : MethodName) (cc' : ByteArray) (mL : Nat) (ret : Option FieldType) (k : Nat) : Prop := Cond.methodLink own index y ∈ mT ∧ Cond.static y ∈ mT ∧ Cond.initialized y.cls ∈ mT ∧ Cond.code y cc' mL ret ∈ mT ∧ (y.cls ≠ "java/lang/invoke/MethodHandle" ∧ y.cls ≠ "java/lang/invoke/VarHandle" ∧ (parseMethodDescriptor y.desc).map (fun d => d.parameters.length) = some k)
def mCN (own : String) (index : Nat) (cc' : ByteArray) (mL : Nat) (ret : Option FieldType) (k : Nat) : Prop := (own, index) ∈ mNs ∧ Cond.static yX8_within ∈ mT ∧ Cond.initialized yX8_within.cls ∈ mT ∧ Cond.code yX8_within cc' mL ret ∈ mT ∧ (yX8_within.cls ≠ "java/lang/invoke/MethodHandle" ∧ yX8_within.cls ≠ "java/lang/invoke/VarHandle" ∧ (parseMethodDescriptor yX8_within.desc).map (fun d => d.parameters.length) = some k)
theorem mcallV {I' : mI} {J' : mJ} {R' : mR} {rv : Option Value} {y : MethodName} {cc' : ByteArray} {mL index ci : Nat} {ret : Option FieldType} {rm : Room} {C : String} {T : u_T} {N a : Nat} (B : mFix p m c cc nL s args own g K n) (hw : mHp g K n s I J R H locs) (As : List Value) {st0 : List Value} (V : mCV own index C y cc' mL ret As.length) (hc : vwCl[ci]? = some (C, T, N)) (ha : K a = (0, ci))
    (hM : Met l y (mWs y cc' mL ret) rm (va_Pc (.ref (g.2.1 a) :: As) (mB g K n I J R)) (mQ g K n rv I' J' R') 0 0 (mA g n)) (hrm : rm.cells = 0 ∧ rm.slots = 0 ∧ rm.frames + 1 ≤ Rm.frames ∧ 8 + (mL + 11) + rm.locals ≤ Rm.locals)
    (hst : st0 = As.reverse ++ .ref (g.2.1 a) :: rest) (hls : ls.size = nL) (hrest : (rest.map fun v => v.category).sum ≤ 8) (hcs : cells ≤ Rm.cells ∧ slots ≤ Rm.slots) (hdg : decode cc pc = .ok (.invokevirtual index, 3))
    (kk : ∀ (H1 : Heap) (locs1 : List Loc), mHp g K n s I' J' R' H1 locs1 → W p l e Rm s m args below meth c H1 locs1 cells slots Q (F0 m (pc + 3) ls (rv.toList ++ rest))) : W p l e Rm s m args below meth c H locs cells slots Q (F0 m pc ls st0) := by
  obtain ⟨S, hK, hJ, hO, hZ⟩ := B
  obtain ⟨v1, v2, v3, v4, v5, v6⟩ := V
  have hn : a < n := hO a (by rw [ha]; exact (by decide : 0 < 8))
  have he := mws_at (g := g) (K := K) (I := I) (J := J) (R := R) hn
  rw [mE0 ha] at he
  have hG : GoodIn mT (wsV own index C y (mWs y cc' mL ret)) := mT_good (fun w hw => by
    rcases List.mem_append.mp hw with h | h
    · simp only [List.mem_cons, List.not_mem_nil, or_false] at h
      rcases h with rfl | rfl | rfl | rfl <;> assumption
    · exact mWs_in v5 w h)
  refine mgo hw (va_runV (As := As) (rest := rest) (b := g.2.1 a) S hM (cwV (n := As.length) S.2.2.2.2 hG rfl hrm.1 hrm.2.1 v6 hrm.2.2) ⟨mB_blind, va_recv hK hw.1 hc he, fun U hU hW => ⟨rfl, by rw [hU]; exact hw.1, va_K.moved hW.alike hK, mZ_go hZ hW hU hw.2.2.1⟩⟩ rfl rfl hls hst (lv_room hrest) hdg hcs) kk
theorem mcallS {I' : mI} {J' : mJ} {R' : mR} {rv : Option Value} {y : MethodName} {cc' : ByteArray} {mL index : Nat} {ret : Option FieldType} {rm : Room} (B : mFix p m c cc nL s args own g K n) (hw : mHp g K n s I J R H locs) (As : List Value) {st0 : List Value} (V : mCS own index y cc' mL ret As.length)
    (hM : Met l y (mWs y cc' mL ret) rm (va_Pc As (mB g K n I J R)) (mQ g K n rv I' J' R') 0 0 (mA g n)) (hrm : rm.cells = 0 ∧ rm.slots = 0 ∧ rm.frames + 1 ≤ Rm.frames ∧ 8 + (mL + 11) + rm.locals ≤ Rm.locals)
    (hst : st0 = As.reverse ++ rest) (hls : ls.size = nL) (hrest : (rest.map fun v => v.category).sum ≤ 8) (hcs : cells ≤ Rm.cells ∧ slots ≤ Rm.slots) (hdg : decode cc pc = .ok (.invokestatic index, 3))
    (kk : ∀ (H1 : Heap) (locs1 : List Loc), mHp g K n s I' J' R' H1 locs1 → W p l e Rm s m args below meth c H1 locs1 cells slots Q (F0 m (pc + 3) ls (rv.toList ++ rest))) : W p l e Rm s m args below meth c H locs cells slots Q (F0 m pc ls st0) := by
  obtain ⟨S, hK, hJ, hO, hZ⟩ := B
  obtain ⟨v1, v2, v3, v5, v6⟩ := V
  have hG : GoodIn mT (va_wsS own index y (mWs y cc' mL ret)) := mT_good (fun w hw => by
    rcases List.mem_append.mp hw with h | h
    · simp only [List.mem_cons, List.not_mem_nil, or_false] at h
      rcases h with rfl | rfl | rfl <;> assumption
    · exact mWs_in v5 w h)
  refine mgo hw (va_runS (As := As) (rest := rest) S hM (va_cwS (n := As.length) S.2.2.2.2 hG rfl hrm.1 hrm.2.1 v6 hrm.2.2) ⟨mB_blind, fun U hU hW => ⟨rfl, by rw [hU]; exact hw.1, va_K.moved hW.alike hK, mZ_go hZ hW hU hw.2.2.1⟩⟩ rfl rfl hls hst (lv_room hrest) hdg hcs) kk
theorem mcallN {I' : mI} {J' : mJ} {R' : mR} {rv : Option Value} {cc' : ByteArray} {mL index : Nat} {ret : Option FieldType} {rm : Room} (B : mFix p m c cc nL s args own g K n) (hw : mHp g K n s I J R H locs) (As : List Value) {st0 : List Value} (V : mCN own index cc' mL ret As.length)
    (hM : Met l yX8_within (mWs yX8_within cc' mL ret) rm (va_Pc As (mB g K n I J R)) (mQ g K n rv I' J' R') 0 0 (mA g n)) (hrm : rm.cells = 0 ∧ rm.slots = 0 ∧ rm.frames + 1 ≤ Rm.frames ∧ 8 + (mL + 11) + rm.locals ≤ Rm.locals)
    (hst : st0 = As.reverse ++ rest) (hls : ls.size = nL) (hrest : (rest.map fun v => v.category).sum ≤ 8) (hcs : cells ≤ Rm.cells ∧ slots ≤ Rm.slots) (hdg : decode cc pc = .ok (.invokestatic index, 3))
    (kk : ∀ (H1 : Heap) (locs1 : List Loc), mHp g K n s I' J' R' H1 locs1 → W p l e Rm s m args below meth c H1 locs1 cells slots Q (F0 m (pc + 3) ls (rv.toList ++ rest))) : W p l e Rm s m args below meth c H locs cells slots Q (F0 m pc ls st0) := by
  obtain ⟨S, hK, hJ, hO, hZ⟩ := B
  obtain ⟨v1, v2, v3, v5, v6⟩ := V
  refine mgo hw (va_runSN (As := As) (rest := rest) S hM ⟨va_cnB (n := As.length) S.2.2.2.2 (mT_good (mWs_in v5)) rfl hrm.1 hrm.2.1 (hZ.1 _ v1) (S.2.2.2.2 _ v3) v6 hrm.2.2, S.2.2.2.2 _ v2, trivial⟩ ⟨mB_blind, fun U hU hW => ⟨rfl, by rw [hU]; exact hw.1, va_K.moved hW.alike hK, mZ_go hZ hW hU hw.2.2.1⟩⟩ rfl rfl hls hst (lv_room hrest) hdg hcs) kk
/-- the ends -/
theorem mri {I' : mI} {J' : mJ} {R' : mR} {v : Int32} {av : Array Value} (hx : p.tables.exec = Jvm.exec) (hb : c.code = cc) (hr : meth.sig.returnType = some .int) (hlk : meth.locks = false) (hw : mHp g K n s I' J' R' H locs) (hdg : decode cc pc = .ok (.ireturn, 1)) : W p l e Rm s m av below meth c H locs cells slots (MQ below (mQ g K n (some (.int v)) I' J' R') av s cells slots (mA g n)) (F0 m pc ls [.int v]) :=
  W.iret hx hb hr (fun t ht _ => ⟨rfl, by rw [ht]; exact hw.1, hw.2.F ht⟩) hw.2.2.2 hdg
theorem mrz {I' : mI} {J' : mJ} {R' : mR} {v : Bool} {av : Array Value} (hx : p.tables.exec = Jvm.exec) (hb : c.code = cc) (hr : meth.sig.returnType = some .boolean) (hlk : meth.locks = false) (hw : mHp g K n s I' J' R' H locs) (hdg : decode cc pc = .ok (.ireturn, 1)) : W p l e Rm s m av below meth c H locs cells slots (MQ below (mQ g K n (some (.int (mb v))) I' J' R') av s cells slots (mA g n)) (F0 m pc ls [.int (mb v)]) :=
  W.zret hx hb hr (mb_nar v) (fun t ht _ => ⟨rfl, by rw [ht]; exact hw.1, hw.2.F ht⟩) hw.2.2.2 hdg
theorem mrl {I' : mI} {J' : mJ} {R' : mR} {v : Int64} {av : Array Value} (hx : p.tables.exec = Jvm.exec) (hb : c.code = cc) (hr : meth.sig.returnType = some .long) (hlk : meth.locks = false) (hw : mHp g K n s I' J' R' H locs) (hdg : decode cc pc = .ok (.lreturn, 1)) : W p l e Rm s m av below meth c H locs cells slots (MQ below (mQ g K n (some (.long v)) I' J' R') av s cells slots (mA g n)) (F0 m pc ls [.long v]) :=
  W.lret hx hb hr (fun t ht _ => ⟨rfl, by rw [ht]; exact hw.1, hw.2.F ht⟩) hw.2.2.2 hdg
theorem mrv {I' : mI} {J' : mJ} {R' : mR} {av : Array Value} (hx : p.tables.exec = Jvm.exec) (hb : c.code = cc) (hr : meth.sig.returnType = none) (hlk : meth.locks = false) (hw : mHp g K n s I' J' R' H locs) (hdg : decode cc pc = .ok (.return_, 1)) : W p l e Rm s m av below meth c H locs cells slots (MQ below (mQ g K n none I' J' R') av s cells slots (mA g n)) (F0 m pc ls []) :=
  W.vret hx hb hr (fun t ht _ => ⟨rfl, by rw [ht]; exact hw.1, hw.2.F ht⟩) hw.2.2.2 hdg
theorem mra {I' : mI} {J' : mJ} {R' : mR} {v : Option Nat} {av : Array Value} {C : String} (hx : p.tables.exec = Jvm.exec) (hb : c.code = cc) (hr : meth.sig.returnType = some (.object C)) (hlk : meth.locks = false) (hw : mHp g K n s I' J' R' H locs) (hdg : decode cc pc = .ok (.areturn, 1)) : W p l e Rm s m av below meth c H locs cells slots (MQ below (mQ g K n (some (va_rf (v.map g.2.1))) I' J' R') av s cells slots (mA g n)) (F0 m pc ls [va_rf (v.map g.2.1)]) :=
  W.aret hx hb hr (Or.inl ⟨C, rfl⟩) (va_rf_or _) (fun t ht _ => ⟨rfl, by rw [ht]; exact hw.1, hw.2.F ht⟩) hw.2.2.2 hdg
end MROW
theorem mInr {α β γ : Type} {f : α → γ} {k : β → γ} {w : β} {v : γ} (h : Sum.elim f k (Sum.inr w) = v) : k w = v := h
theorem mInl {α β γ : Type} {f : α → γ} {k : β → γ} {w : α} {v : γ} (h : Sum.elim f k (Sum.inl w) = v) : f w = v := h
theorem mON0 {α : Type} {a : α} {f : Nat → α} {v : α} (h : mON none a f = v) : a = v := h
theorem mON1 {α : Type} {a : α} {f : Nat → α} {v : α} {x : Nat} (h : mON (some x) a f = v) : f x = v := h
def imax (x y : Int32) : Int32 := if x < y then y else x
def imin (x y : Int32) : Int32 := if y < x then y else x
def mMh (own : String) (index : Nat) (nm : MethodName) (cd : ByteArray) : Prop := Cond.methodLink own index nm ∈ mT ∧ Cond.static nm ∈ mT ∧ Cond.initialized "java/lang/Math" ∈ mT ∧ Cond.code nm cd 2 (some .int) ∈ mT
theorem mSwOut {x : Int32} (N : Nat) (hN : N + 1 < 2 ^ 31) (h : ∀ k, k ≤ N → ¬ x = nI k) : x.toInt < 0 ∨ (N : Int) < x.toInt := by
  rcases pk_ix x hN with h1 | h1 | ⟨j, h1, rfl⟩
  · exact Or.inl (Int32.lt_iff_toInt_lt.mp h1)
  · refine Or.inr ?_
    have h2 := Int32.le_iff_toInt_le.mp h1
    rw [nI_toInt hN] at h2
    omega
  · exact absurd rfl (h j (by omega))
section MROW2
variable {p : Program} {l : Launch} {e : Env} {Rm : Room} {s : State} {m : MethodId} {args : Array Value} {below : List Frame} {meth : Method} {c : Code} {H : Heap} {locs : List Loc} {cells slots : Nat} {Q : State → Prop}
variable {cc : ByteArray} {pc : Nat} {ls : Array Slot} {rest : List Value} {own : String} {nL : Nat} {g : mG} {K : mK} {n : Nat} {I : mI} {J : mJ} {R : mR}
theorem mlo (hexec : p.tables.exec = Jvm.exec) (hb : c.code = cc) {i : Nat} {r : Option Nat} (hdg : decode cc pc = .ok (.aload i, 2)) (hl : ls[i]? = some (.val (va_rf r)))
    (k : W p l e Rm s m args below meth c H locs cells slots Q (F0 m (pc + 2) ls (va_rf r :: rest))) : W p l e Rm s m args below meth c H locs cells slots Q (F0 m pc ls rest) := by
  cases r with
  | none => exact lv_aloadN hexec hb hdg hl k
  | some x => exact lv_aload hexec hb hdg hl k
theorem mlo_n (hexec : p.tables.exec = Jvm.exec) (hb : c.code = cc) {k : Fin 4} {i : Nat} {r : Option Nat} (hdg : decode cc pc = .ok (.aload_n k, 1)) (hi : (k : Nat) = i) (hl : ls[i]? = some (.val (va_rf r)))
    (kk : W p l e Rm s m args below meth c H locs cells slots Q (F0 m (pc + 1) ls (va_rf r :: rest))) : W p l e Rm s m args below meth c H locs cells slots Q (F0 m pc ls rest) := by
  cases r with
  | none => exact lv_aload_nN hexec hb hdg hi hl kk
  | some x => exact lv_aload_n hexec hb hdg hi hl kk
theorem mso (hexec : p.tables.exec = Jvm.exec) (hb : c.code = cc) {i nL : Nat} {r : Option Nat} {lv lv' : List (Nat × Value)} (hdg : decode cc pc = .ok (.astore i, 2)) (h : lv_has ls nL lv) (hn : i < nL) (hl : (i, va_rf r) :: lv.filter (fun q => !(q.1 == i) && !(q.1 + 1 == i && q.2.category == 2)) = lv')
    (kk : ∀ ls' : Array Slot, lv_has ls' nL lv' → W p l e Rm s m args below meth c H locs cells slots Q (F0 m (pc + 2) ls' rest)) : W p l e Rm s m args below meth c H locs cells slots Q (F0 m pc ls (va_rf r :: rest)) := by
  cases r with
  | none => exact lv_astoreN hexec hb hdg h hn hl kk
  | some x => exact lv_astore hexec hb hdg h hn hl kk
theorem mso_n (hexec : p.tables.exec = Jvm.exec) (hb : c.code = cc) {k : Fin 4} {i nL : Nat} {r : Option Nat} {lv lv' : List (Nat × Value)} (hdg : decode cc pc = .ok (.astore_n k, 1)) (hi : (k : Nat) = i) (h : lv_has ls nL lv) (hn : i < nL) (hl : (i, va_rf r) :: lv.filter (fun q => !(q.1 == i) && !(q.1 + 1 == i && q.2.category == 2)) = lv')
    (kk : ∀ ls' : Array Slot, lv_has ls' nL lv' → W p l e Rm s m args below meth c H locs cells slots Q (F0 m (pc + 1) ls' rest)) : W p l e Rm s m args below meth c H locs cells slots Q (F0 m pc ls (va_rf r :: rest)) := by
  cases r with
  | none => exact lv_astore_nN hexec hb hdg hi h hn hl kk
  | some x => exact lv_astore_n hexec hb hdg hi h hn hl kk
theorem mmmax (B : mFix p m c cc nL s args own g K n) (hls : ls.size = nL) {index : Nat} (h : mMh own index Lib.Math.max.name Lib.Math.max.code) (hframes : 1 ≤ Rm.frames) (hlocals : (rest.map fun v => v.category).sum + 13 ≤ Rm.locals) (hc : cells ≤ Rm.cells) (hs : slots ≤ Rm.slots) {x y : Int32} (hdg : decode cc pc = .ok (.invokestatic index, 3))
    (kk : W p l e Rm s m args below meth c H locs cells slots Q (F0 m (pc + 3) ls (.int (imax x y) :: rest))) : W p l e Rm s m args below meth c H locs cells slots Q (F0 m pc ls (.int y :: .int x :: rest)) :=
  va_mmax B.1.1 B.1.2.1 (B.1.2.2.1.trans hls.symm) B.1.2.2.2.1 (B.1.2.2.2.2 _ h.1) (B.1.2.2.2.2 _ h.2.1) (B.1.2.2.2.2 _ h.2.2.1) (B.1.2.2.2.2 _ h.2.2.2) hframes hlocals hc hs hdg kk
theorem mmmin (B : mFix p m c cc nL s args own g K n) (hls : ls.size = nL) {index : Nat} (h : mMh own index Lib.Math.min.name Lib.Math.min.code) (hframes : 1 ≤ Rm.frames) (hlocals : (rest.map fun v => v.category).sum + 13 ≤ Rm.locals) (hc : cells ≤ Rm.cells) (hs : slots ≤ Rm.slots) {x y : Int32} (hdg : decode cc pc = .ok (.invokestatic index, 3))
    (kk : W p l e Rm s m args below meth c H locs cells slots Q (F0 m (pc + 3) ls (.int (imin x y) :: rest))) : W p l e Rm s m args below meth c H locs cells slots Q (F0 m pc ls (.int y :: .int x :: rest)) :=
  va_mmin B.1.1 B.1.2.1 (B.1.2.2.1.trans hls.symm) B.1.2.2.2.1 (B.1.2.2.2.2 _ h.1) (B.1.2.2.2.2 _ h.2.1) (B.1.2.2.2.2 _ h.2.2.1) (B.1.2.2.2.2 _ h.2.2.2) hframes hlocals hc hs hdg kk
end MROW2
