theorem mr_outer (c : ClassId) (N h0 : Nat) : ∀ i : Nat, Jvm.Free.Multi.outerC c N h0 i = arrV c N (fun j => va_rf (if j < i then some (h0 + 1 + j) else none))
  | 0 => by
    show ({ cls := c, slots := Array.replicate N .null, vm := .none } : Cell) = _
    rw [arrV_new]
    refine congrArg (arrV c N) (funext fun j => ?_)
    simp [va_rf]
  | i + 1 => by
    show (Jvm.Free.Multi.outerC c N h0 i).setSlot i (.ref (h0 + 1 + i)) = _
    rw [mr_outer c N h0 i, arrV_store]
    refine congrArg (arrV c N) (funext fun j => ?_)
    by_cases e : j = i
    · subst e
      simp [updV, va_rf]
    · by_cases h : j < i
      · simp [updV, e, h, Nat.lt_succ_of_lt h]
      · simp [updV, e, h, show ¬ j < i + 1 by omega]
def kr (K : mK) (n : Nat) : mK := fun a => if a < n then K a else (99, 0)
theorem kr_lt {K : mK} {n a : Nat} (h : a < n) : kr K n a = K a := if_pos h
theorem kr_ok (K : mK) (n : Nat) : mOk (kr K n) n := fun a h => by
  unfold kr at h
  by_cases q : a < n
  · exact q
  · rw [if_neg q] at h
    exact absurd h (by decide)
theorem mws_kr {g : mG} {K : mK} {n : Nat} {I : mI} {J : mJ} {R : mR} : mws g (kr K n) n I J R = mws g K n I J R := by
  unfold mws
  apply List.map_congr_left
  intro i hi
  have hi := List.mem_range.mp hi
  unfold mE
  rw [kr_lt hi]
theorem mZ.narrow {g : mG} {A A' : Nat → Prop} {U : State} {H : Heap} (h : mZ g A U H) (hA : ∀ q, A' q → A q) : mZ g A' U H := ⟨h.1, h.2.1, h.2.2.1.narrow hA, h.2.2.2.1.narrow hA, h.2.2.2.2.narrow hA⟩
theorem mA_up {g : mG} {b n : Nat} (hg : ∀ i, g.2.1 i = b + i) : ∀ q, mA g n q → up b q := fun q h => by
  obtain ⟨i, -, rfl⟩ := h
  rw [hg]
  exact Nat.le_add_right b i
theorem mInj_up {g : mG} {b n : Nat} (hg : ∀ i, g.2.1 i = b + i) : mInj g n := fun i j _ _ h => by rw [hg, hg] at h; omega
section CROW2
variable {p : Program} {l : Launch} {e : Env} {Rm : Room} {s : State} {m : MethodId} {args : Array Value} {below : List Frame} {meth : Method} {c : Code} {H : Heap} {locs : List Loc} {cells slots : Nat} {Q : State → Prop}
variable {cc : ByteArray} {pc : Nat} {ls : Array Slot} {rest : List Value} {own : String} {nL : Nat} {g : mG} {K : mK} {b n : Nat} {I : mI} {J : mJ} {R : mR}
theorem c_new (B : cFix p m c cc nL s args own g b) (hw : cHp g K b n s I J R H locs) {index ci N : Nat} {C : String} {T : u_T} {ty0 : Nat → FieldType} (hKn : K n = (0, ci)) (hc : vwCl[ci]? = some (C, T, N)) (hin : ∀ w ∈ u_ws C T N, w ∈ mT) (hty : ∀ k, k < N → parseFieldDescriptor (T k).2.2.1 = some (ty0 k)) (hnf : mNF ci = N) (hdef : ∀ j, j < N → defaultValue (ty0 j) = if mIR ci j = true then .null else .int 0) (V : Cond.classLink own index C ∈ mT ∧ Cond.instantiable C N ∈ mT ∧ Cond.initialized C ∈ mT) (hcells : cells + 1 ≤ Rm.cells) (hslots : slots + N ≤ Rm.slots) (hdg : decode cc pc = .ok (.new index, 3))
    (kk : ∀ H1 : Heap, cHp g K b (n + 1) s I J R H1 locs → W p l e Rm s m args below meth c H1 locs (cells + 1) (slots + N) Q (F0 m (pc + 3) ls (.ref (g.2.1 n) :: rest))) : W p l e Rm s m args below meth c H locs cells slots Q (F0 m pc ls rest) := by
  obtain ⟨S, hK, hg, hZ, hbs⟩ := B
  obtain ⟨hP, hS, hz, hf⟩ := hw
  have hKn' := hK.1 ci _ hc
  refine W.newcK S.1 S.2.1 S.2.2.2.1 (S.2.2.2.2 _ V.1) (S.2.2.2.2 _ V.2.1) (S.2.2.2.2 _ V.2.2) rfl hdg hcells hslots hKn'.2.1 hz fun H1 kC hkC e1 z1 o1 => ?_
  have hk : ∀ (k : Nat) (y : Nat × va_E), (mws g K n I J R)[k]? = some y → H1[y.1]? = H[y.1]? := fun k y hy => o1 y.1 (by have := (hP k y hy).lt; omega)
  have := kk H1 ⟨by
    rw [mws_s]
    refine (hP.kept hk).app (fun k y hy => ?_)
    have h0 : k < 1 := (List.getElem?_eq_some_iff.mp hy).1
    rw [show k = 0 by omega] at hy
    cases hy
    rw [mE0 hKn, hg]
    refine ⟨_, hc, (u_born ty0 S.2.2.2.2 hin hKn' hkC e1 hty).to (fun j hj => ?_)⟩
    rw [hdef j hj]
    unfold vp_V
    rw [List.getD_eq_getElem?_getD, mFs_at (by rw [hnf]; exact hj), hf.I (Nat.le_refl n), hf.R (Nat.le_refl n)]
    rfl, ⟨Nat.le_trans hS.1 (by omega), fun y h1 h2 => (o1 y (by have := hS.1; omega)).trans (hS.2.1 y h1 h2), hS.2.2⟩, by omega, hf.le (by omega)⟩
  rw [hg] at this
  exact this
theorem c_newq (B : cFix p m c cc nL s args own g b) (hw : cHp g K b n s I J R H locs) {index N : Nat} (hKn : K n = (5, N)) (V : Cond.classLink own index "NamedAgain$Card" ∈ mT) {v : Int32} (hv : v.toNatClampNeg = N) (hv0 : ¬ v < 0) (hby : N ≤ 100000) (hcells : cells + 1 ≤ Rm.cells) (hslots : slots + N ≤ Rm.slots) (hdg : decode cc pc = .ok (.anewarray index, 3))
    (kk : ∀ H1 : Heap, cHp g K b (n + 1) s I J R H1 locs → W p l e Rm s m args below meth c H1 locs (cells + 1) (slots + N) Q (F0 m (pc + 3) ls (.ref (g.2.1 n) :: rest))) : W p l e Rm s m args below meth c H locs cells slots Q (F0 m pc ls (.int v :: rest)) := by
  obtain ⟨S, hK, hg, hZ, hbs⟩ := B
  obtain ⟨hP, hS, hz, hf⟩ := hw
  subst hv
  refine W.anew S.1 S.2.1 S.2.2.2.1 (S.2.2.2.2 _ V) (args := args) hZ.2.1 rfl hdg rfl hv0 (by omega) hcells hslots fun cA kA comp f1 f2 f3 f4 => ?_
  obtain ⟨-, -, -, -, -, f5⟩ := (hK.2 4 _ rfl).2
  have hc : cA = g.2.2.1 5 := Option.some.inj (f1.symm.trans f5)
  subst hc
  generalize hH1 : H.push ({ cls := g.2.2.1 5, slots := Array.replicate v.toNatClampNeg .null, vm := .none } : Cell) = H1
  have z1 : H1.size = H.size + 1 := by rw [← hH1, Array.size_push]
  have e1 : H1[H.size]? = some (arrV (g.2.2.1 5) v.toNatClampNeg (fun _ => .null)) := by rw [← hH1, Array.getElem?_push_size, ← arrV_new]
  have o1 : ∀ q : Nat, q < H.size → H1[q]? = H[q]? := fun q hq => by rw [← hH1, Array.getElem?_push, if_neg (Nat.ne_of_lt hq)]
  have hk : ∀ (k : Nat) (y : Nat × va_E), (mws g K n I J R)[k]? = some y → H1[y.1]? = H[y.1]? := fun k y hy => o1 y.1 (hP k y hy).lt
  have := kk H1 ⟨by
    rw [mws_s]
    refine (hP.kept hk).app (fun k y hy => ?_)
    have h0 : k < 1 := (List.getElem?_eq_some_iff.mp hy).1
    rw [show k = 0 by omega] at hy
    cases hy
    rw [mE5 (by rw [hKn]), hg, hKn, hf.R (Nat.le_refl n), ← hz]
    show H1[H.size]? = some (vp_cell _ _)
    rw [vp_cell_q]
    exact e1, ⟨Nat.le_trans hS.1 (by omega), fun y h1 h2 => (o1 y (Nat.lt_of_lt_of_le h1 hS.1)).trans (hS.2.1 y h1 h2), hS.2.2⟩, by omega, hf.le (by omega)⟩
  rw [hg, ← hz] at this
  exact this
/-- new T[N][M] -/
theorem c_mna (B : cFix p m c cc nL s args own g b) (hw : cHp g K b n s I J R H locs) {ty : FieldType} {q qi N M index : Nat} {z : vp_A} (hKn : K n = (q, N)) (hKi : ∀ i, i < N → K (n + 1 + i) = (qi, M)) (V : Cond.classLink own index ("[" ++ (FieldType.array ty).toString) ∈ mT) (ho : va_Nw (.arrayOver (.array ty)) s) (harr : Cond.arrayClass ty ∈ mT)
    (ht : s.vm.findClass ("[" ++ (FieldType.array ty).toString) = some (g.2.2.1 q)) (hti : s.vm.findClass (FieldType.array ty).toString = some (g.2.2.1 qi)) (hEo : ∀ R : mR, mE g K I J R n = .inl (g.2.2.1 q, N, .inr (.inr (.inr (.inr (fun j => (R n j).map g.2.1)))))) (hEi : ∀ (R : mR) (i : Nat), i < N → mE g K I J R (n + 1 + i) = .inl (g.2.2.1 qi, z)) (hz0 : ∀ c : ClassId, Jvm.Free.Multi.innerC c M (defaultValue ty) = vp_cell c z) (hdf : fits ty (defaultValue ty) = true) (hdd : (defaultValue ty).isDefault = true)
    {v w : Int32} (hv : v.toNatClampNeg = N) (hv0 : ¬ v < 0) (hw' : w.toNatClampNeg = M) (hw0 : ¬ w < 0) (hN : N ≤ 1000) (hM : M ≤ 1000) (hby : M * componentBytes ty ≤ 536870912) (hcells : cells + (1 + N) ≤ Rm.cells) (hslots : slots + (N + N * M) ≤ Rm.slots) (hdg : decode cc pc = .ok (.multianewarray index 2, 4))
    (kk : ∀ H1 : Heap, cHp g K b (n + 1 + N) s I J (rowU R n 0 N (fun i => some (n + 1 + i))) H1 locs → W p l e Rm s m args below meth c H1 locs (cells + 1 + N) (slots + N + N * M) Q (F0 m (pc + 4) ls (.ref (g.2.1 n) :: rest))) : W p l e Rm s m args below meth c H locs cells slots Q (F0 m pc ls (.int w :: .int v :: rest)) := by
  obtain ⟨S, hK, hg, hZ, hbs⟩ := B
  obtain ⟨hP, hS, hz, hf⟩ := hw
  subst hv
  subst hw'
  intro T hT Xs
  obtain ⟨vm₁, cA, comp, -, fA, fC, hO, -, X', step⟩ := Xs.multianewarray2F S.1 S.2.2.2.1 (S.2.2.2.2 _ V) (ty := ty) ho (S.2.2.2.2 _ harr) (g := F0 m pc ls (.int w :: .int v :: rest)) rfl (by rw [S.2.1]; exact hdg) rfl hv0 hw0 (by omega) hby (by omega) hdf hdd hcells hslots
  have hcA : cA = g.2.2.1 q := Option.some.inj (fA.symm.trans ht)
  have hcC : comp = g.2.2.1 qi := Option.some.inj (fC.symm.trans hti)
  subst hcA
  subst hcC
  generalize hF : Jvm.Free.Multi.fill (T.setVm vm₁) (g.2.2.1 q) (g.2.2.1 qi) v.toNatClampNeg w.toNatClampNeg (defaultValue ty) v.toNatClampNeg = F at X' step
  have hTh : (T.setVm vm₁).heap = H := hT
  obtain ⟨f1, f2, -, -⟩ := Jvm.Free.Multi.fill_facts (T.setVm vm₁) (g.2.2.1 q) (g.2.2.1 qi) v.toNatClampNeg w.toNatClampNeg (defaultValue ty) v.toNatClampNeg
  rw [hF, hTh] at f1 f2
  have hold : ∀ x : Nat, x < H.size → F.heap[x]? = H[x]? := fun x hx => by
    have := Jvm.Free.Multi.fill_old (T.setVm vm₁) (g.2.2.1 q) (g.2.2.1 qi) v.toNatClampNeg w.toNatClampNeg (defaultValue ty) (a := x) (by rw [hTh]; exact hx) v.toNatClampNeg
    rw [hF, hTh] at this
    exact this
  have hrow : ∀ j : Nat, j < v.toNatClampNeg → F.heap[H.size + 1 + j]? = some (vp_cell (g.2.2.1 qi) z) := fun j hj => by
    have := Jvm.Free.Multi.fill_inner (T.setVm vm₁) (g.2.2.1 q) (g.2.2.1 qi) v.toNatClampNeg w.toNatClampNeg (defaultValue ty) v.toNatClampNeg j hj
    rw [hF, hTh, hz0] at this
    exact this
  rw [mr_outer] at f2
  have hfr : fresh (n + 1 + v.toNatClampNeg) I J (rowU R n 0 v.toNatClampNeg (fun i => some (n + 1 + i))) := fun i k hi => ⟨(hf i k (by omega)).1, (hf i k (by omega)).2.1, by rw [rowU_ne (by omega)]; exact (hf i k (by omega)).2.2⟩
  have hPn : va_P g.1 vwCl (mws g K (n + 1 + v.toNatClampNeg) I J (rowU R n 0 v.toNatClampNeg (fun i => some (n + 1 + i)))) F.heap := fun k y hy => by
    have hk : k < n + 1 + v.toNatClampNeg := by
      have := (List.getElem?_eq_some_iff.mp hy).1
      simpa [mws] using this
    rw [mws_at hk] at hy
    cases hy
    by_cases k1 : k < n
    · have q0 := hP k _ (mws_at k1)
      have e0 : mE g K I J (rowU R n 0 v.toNatClampNeg (fun i => some (n + 1 + i))) k = mE g K I J R k := by
        have : rowU R n 0 v.toNatClampNeg (fun i => some (n + 1 + i)) k = R k := funext fun j => rowU_ne (by omega)
        unfold mE mFs
        rw [this]
      rw [e0]
      exact va_at.kept q0 (hold _ (by show g.2.1 k < H.size; rw [hg]; omega))
    · by_cases k2 : k = n
      · subst k2
        rw [hEo, hg]
        show F.heap[b + k]? = some (vp_cell _ _)
        rw [vp_cell_q, ← hz, f2]
        congr 2
        funext j
        congr 1
        by_cases hj : j < v.toNatClampNeg
        · rw [rowU_in (Nat.zero_le j) hj, if_pos hj, Option.map_some, hg, hz]
          congr 1
          omega
        · rw [rowU_out (by omega), if_neg hj, (hf k j (Nat.le_refl k)).2.2]
          rfl
      · obtain ⟨j, rfl⟩ : ∃ j, k = n + 1 + j := ⟨k - n - 1, by omega⟩
        rw [hEi _ j (by omega), hg]
        show F.heap[b + (n + 1 + j)]? = some (vp_cell _ _)
        rw [← hrow j (by omega), hz]
        congr 1
        omega
  obtain ⟨t, a1, b1⟩ := kk F.heap ⟨hPn, ⟨by rw [f1]; have := hS.1; omega, fun x h1 h2 => (hold x (Nat.lt_of_lt_of_le h1 hS.1)).trans (hS.2.1 x h1 h2), hS.2.2⟩, by rw [f1]; omega, hfr⟩ F rfl X'
  refine ⟨t, step t ?_, b1⟩
  have e : T.heap.size = g.2.1 n := by rw [hT, hz, hg]
  rw [e]
  exact a1
end CROW2
