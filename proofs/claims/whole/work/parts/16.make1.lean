/-! ===== making cells: the world grows by the next ids ===== -/
def fresh (n : Nat) (I : mI) (J : mJ) (R : mR) : Prop := ∀ i k, n ≤ i → I i k = 0 ∧ J i k = 0 ∧ R i k = none
theorem fresh.le {n n' : Nat} {I : mI} {J : mJ} {R : mR} (h : fresh n I J R) (hn : n ≤ n') : fresh n' I J R := fun i k hi => h i k (by omega)
theorem fresh.uI {n : Nat} {I : mI} {J : mJ} {R : mR} (h : fresh n I J R) {a k : Nat} (ha : a < n) (x : Int32) : fresh n (mup I a k x) J R := fun i j hi => ⟨by rw [mup_ne _ _ (by omega)]; exact (h i j hi).1, (h i j hi).2⟩
theorem fresh.uR {n : Nat} {I : mI} {J : mJ} {R : mR} (h : fresh n I J R) {a k : Nat} (ha : a < n) (x : Option Nat) : fresh n I J (mup R a k x) := fun i j hi => ⟨(h i j hi).1, (h i j hi).2.1, by rw [mup_ne _ _ (by omega)]; exact (h i j hi).2.2⟩
theorem fresh.I {n : Nat} {I : mI} {J : mJ} {R : mR} (h : fresh n I J R) {i : Nat} (hi : n ≤ i) : I i = fun _ => 0 := funext fun k => (h i k hi).1
theorem fresh.J {n : Nat} {I : mI} {J : mJ} {R : mR} (h : fresh n I J R) {i : Nat} (hi : n ≤ i) : J i = fun _ => 0 := funext fun k => (h i k hi).2.1
theorem fresh.R {n : Nat} {I : mI} {J : mJ} {R : mR} (h : fresh n I J R) {i : Nat} (hi : n ≤ i) : R i = fun _ => none := funext fun k => (h i k hi).2.2
theorem mws_s {g : mG} {K : mK} {n : Nat} {I : mI} {J : mJ} {R : mR} : mws g K (n + 1) I J R = mws g K n I J R ++ [(g.2.1 n, mE g K I J R n)] := by
  unfold mws
  rw [List.range_succ, List.map_append]
  rfl
/-- the words on arrays of references -/
def cO (U : State) : Prop := va_Nw (.arrayOver (.object "NamedAgain$Card")) U ∧ va_Nw (.arrayOver (.array .int)) U ∧ va_Nw (.arrayOver (.array .long)) U
theorem nw_over {ty : FieldType} {s U : State} (hW : s.vm.Alike U.vm) (h : va_Nw (.arrayOver ty) s) : va_Nw (.arrayOver ty) U := by
  have q : (Cond.arrayOver ty).before #[] (s.setVm U.vm) = true := by rw [Cond.arrayOver_setVmC hW]; exact h
  exact q
theorem cO.go {s U : State} (hW : s.vm.Alike U.vm) (h : cO s) : cO U := ⟨nw_over hW h.1, nw_over hW h.2.1, nw_over hW h.2.2⟩
abbrev up (b : Nat) : Nat → Prop := fun q => b ≤ q
def cB (g : mG) (K : mK) (b n : Nat) (I : mI) (J : mJ) (R : mR) (U : State) : Prop := va_P g.1 vwCl (mws g K n I J R) U.heap ∧ va_K g.1 vwCl (mTys g) U ∧ (mZ g (up b) U U.heap ∧ cO U) ∧ U.heap.size = b + n
def cQ (g : mG) (K : mK) (b n : Nat) (I : mI) (J : mJ) (R : mR) : Array Value → State → Outcome → State → Prop := fun _ st oc t => oc = .returned none ∧ va_P g.1 vwCl (mws g K n I J R) t.heap ∧ va_F (up b) st t
def cHp (g : mG) (K : mK) (b n : Nat) (s : State) (I : mI) (J : mJ) (R : mR) (H : Heap) (locs : List Loc) : Prop := va_P g.1 vwCl (mws g K n I J R) H ∧ va_S (up b) s.heap H locs ∧ H.size = b + n ∧ fresh n I J R
def cFix (p : Program) (m : MethodId) (c : Code) (cc : ByteArray) (nL : Nat) (s : State) (args : Array Value) (own : String) (g : mG) (b : Nat) : Prop := CallFix p m c cc nL s args mT own ∧ va_K g.1 vwCl (mTys g) s ∧ (∀ i, g.2.1 i = b + i) ∧ (mZ g (up b) s s.heap ∧ cO s) ∧ b ≤ s.heap.size
theorem cB_blind {g : mG} {K : mK} {b n : Nat} {I : mI} {J : mJ} {R : mR} {av : List Value} : FrameBlind (va_Pc av (cB g K b n I J R)) := fun a U gg mk q => by
  obtain ⟨q0, qP, qK, ⟨qZ, qO⟩, qs⟩ := q
  exact ⟨q0, qP, va_K.moved (u := U) (U := U.calling gg mk a) (Vm.Alike.refl U.vm) qK, ⟨mZ_blind (U := U) (U' := U.calling gg mk a) rfl qZ, qO.go (U := U.calling gg mk a) (Vm.Alike.refl U.vm)⟩, qs⟩
theorem cStart {l : Launch} {g : mG} {K : mK} {b n n' a : Nat} {I I' : mI} {J J' : mJ} {R R' : mR} {y : MethodName} {cc : ByteArray} {mL mc ms : Nat} {rm : Room} (own : String) (hg : ∀ i, g.2.1 i = b + i) (hfr : fresh n I J R) (hy : plainName y.cls = true) (hyn : y.name = "<init>") (ho : y.cls = own) (ha : (lg_sl [Value.ref (g.2.1 a)]).length ≤ mL)
    (body : ∀ (p : Program) (e : Env) (s : State) (m : MethodId) (below : List Frame) (meth : Method) (c : Code) (ls : Array Slot) (Qm : State → Prop), Qm = MQ below (cQ g K b n' I' J' R') [Value.ref (g.2.1 a)].toArray s mc ms (up b) → cFix p m c cc mL s [Value.ref (g.2.1 a)].toArray own g b → meth.sig.returnType = none → meth.locks = false → meth.name = "<init>" → s.heap.size = b + n → cHp g K b n s I J R s.heap [] → lv_has ls mL [(0, .ref (g.2.1 a))] →
      W p l e rm s m [Value.ref (g.2.1 a)].toArray below meth c s.heap [] 0 0 Qm (F0 m 0 ls [])) : Met l y (mWs y cc mL none) rm (va_Pc [.ref (g.2.1 a)] (cB g K b n I J R)) (cQ g K b n' I' J' R') mc ms (up b) := by
  refine Met.ofW (cc := cc) (maxL := mL) (ret := none) hy rfl ?_
  intro p e s m args below meth c s₁ B hml hv
  obtain ⟨rfl, hP, hK, hZ, hs⟩ := hv
  have hts := atoms_spec (ws := mWs y cc mL none) B.pre
  have hown : s.vm.findClass y.cls = some m.cls := findClass_of_methodNamed B.named
  have hin : meth.name = "<init>" := ((name_of_methodNamed B.named B.method).1).trans hyn
  rw [lg_entry_eq]
  exact body p e s m below meth c _ _ rfl ⟨⟨B.exec, B.bytes, hml, ho ▸ hown, fun w hw => hts w (List.mem_cons_of_mem _ hw)⟩, hK, hg, hZ, by omega⟩ B.returns B.notSynchronized hin hs ⟨hP, va_S.rf, hs, hfr⟩ (lv_entry [Value.ref (g.2.1 a)] ha)
theorem oi_1 : Cond.instanceMethod Lib.objectInit ∈ mT := mT_at 22 rfl rfl
theorem oi_2 : Cond.code Lib.objectInit ⟨#[0xb1]⟩ 1 none ∈ mT := mT_at 23 rfl rfl
section CROW
variable {p : Program} {l : Launch} {e : Env} {Rm : Room} {s : State} {m : MethodId} {args : Array Value} {below : List Frame} {meth : Method} {c : Code} {H : Heap} {locs : List Loc} {cells slots : Nat} {Q : State → Prop}
variable {cc : ByteArray} {pc : Nat} {ls : Array Slot} {rest : List Value} {own : String} {nL : Nat} {g : mG} {K : mK} {b n : Nat} {I : mI} {J : mJ} {R : mR}
theorem cD {I : mI} {J : mJ} {R : mR} (hg : ∀ i, g.2.1 i = b + i) : va_D (up b) (mws g K n I J R) := mws_D (fun i j _ _ h => by rw [hg, hg] at h; omega) (fun i _ => by rw [hg]; exact Nat.le_add_right b i)
theorem c_obj (B : cFix p m c cc nL s args own g b) (hls : ls.size = nL) {index a : Nat} (V : Cond.methodLink own index Lib.objectInit ∈ mT) (h1 : 1 ≤ Rm.frames) (h2 : (rest.map fun v => v.category).sum + 12 ≤ Rm.locals) (hdg : decode cc pc = .ok (.invokespecial index, 3))
    (kk : W p l e Rm s m args below meth c H locs cells slots Q (F0 m (pc + 3) ls rest)) : W p l e Rm s m args below meth c H locs cells slots Q (F0 m pc ls (.ref a :: rest)) := by
  obtain ⟨S, hK, hg, hZ, hbs⟩ := B
  exact W.objInit S.1 S.2.1 S.2.2.2.1 (S.2.2.2.2 _ V) (S.2.2.2.2 _ oi_1) (S.2.2.2.2 _ oi_2) rfl (hls.trans S.2.2.1.symm) rfl hdg h1 (by show 2 * 0 + _ + 12 ≤ _; omega) kk
theorem c_newa (B : cFix p m c cc nL s args own g b) (hw : cHp g K b n s I J R H locs) {atype : ArrayType} {ty : FieldType} {q N : Nat} {x : vp_A} (hty : newarray.typeOf atype = ty) (harr : Cond.arrayClass ty ∈ mT) (hRA : s.vm.findClass ("[" ++ ty.toString) = some (g.2.2.1 q)) (hE : mE g K I J R n = .inl (g.2.2.1 q, x)) (hx : vp_cell (g.2.2.1 q) x = arrV (g.2.2.1 q) N (fun _ => defaultValue ty)) {v : Int32} (hv : v.toNatClampNeg = N) (hv0 : ¬ v < 0) (hby : N * componentBytes ty ≤ 536870912) (hcells : cells + 1 ≤ Rm.cells) (hslots : slots + N ≤ Rm.slots) (hdg : decode cc pc = .ok (.newarray atype, 2))
    (kk : ∀ H1 : Heap, cHp g K b (n + 1) s I J R H1 locs → W p l e Rm s m args below meth c H1 locs (cells + 1) (slots + N) Q (F0 m (pc + 2) ls (.ref (g.2.1 n) :: rest))) : W p l e Rm s m args below meth c H locs cells slots Q (F0 m pc ls (.int v :: rest)) := by
  obtain ⟨S, hK, hg, hZ, hbs⟩ := B
  obtain ⟨hP, hS, hz, hf⟩ := hw
  subst hty
  refine va_newaK S.1 S.2.1 (S.2.2.2.2 _ harr) rfl hdg rfl hv0 hv hby hcells hslots hz fun H1 cA e1 z1 o1 hAr hNm => ?_
  have hc : cA = g.2.2.1 q := Option.some.inj (hNm.symm.trans hRA)
  subst hc
  have hk : ∀ (k : Nat) (y : Nat × va_E), (mws g K n I J R)[k]? = some y → H1[y.1]? = H[y.1]? := fun k y hy => o1 y.1 (by have := (hP k y hy).lt; omega)
  have := kk H1 ⟨by
    rw [mws_s]
    refine (hP.kept hk).app (fun k y hy => ?_)
    have h0 : k < 1 := (List.getElem?_eq_some_iff.mp hy).1
    rw [show k = 0 by omega] at hy
    cases hy
    rw [hE]
    show H1[g.2.1 n]? = some (vp_cell _ _)
    rw [hg, hx]
    exact e1, ⟨Nat.le_trans hS.1 (by omega), fun y h1 h2 => (o1 y (by have := hS.1; omega)).trans (hS.2.1 y h1 h2), hS.2.2⟩, by omega, hf.le (by omega)⟩
  rw [hg] at this
  exact this
theorem c_newI (B : cFix p m c cc nL s args own g b) (hw : cHp g K b n s I J R H locs) {N : Nat} (hKn : K n = (1, N)) {v : Int32} (hv : v.toNatClampNeg = N) (hv0 : ¬ v < 0) (hby : N ≤ 100000) (hcells : cells + 1 ≤ Rm.cells) (hslots : slots + N ≤ Rm.slots) (hdg : decode cc pc = .ok (.newarray .int, 2))
    (kk : ∀ H1 : Heap, cHp g K b (n + 1) s I J R H1 locs → W p l e Rm s m args below meth c H1 locs (cells + 1) (slots + N) Q (F0 m (pc + 2) ls (.ref (g.2.1 n) :: rest))) : W p l e Rm s m args below meth c H locs cells slots Q (F0 m pc ls (.int v :: rest)) :=
  c_newa (ty := .int) (q := 1) B hw rfl (mT_at 75 rfl rfl) (B.2.1.2 0 _ rfl).2 (mE1 (by rw [hKn])) (by rw [hKn, hw.2.2.2.I (Nat.le_refl n)]; rfl) hv hv0 (by show N * 4 ≤ _; omega) hcells hslots hdg kk
theorem c_newB (B : cFix p m c cc nL s args own g b) (hw : cHp g K b n s I J R H locs) {N : Nat} (hKn : K n = (2, N)) {v : Int32} (hv : v.toNatClampNeg = N) (hv0 : ¬ v < 0) (hby : N ≤ 100000) (hcells : cells + 1 ≤ Rm.cells) (hslots : slots + N ≤ Rm.slots) (hdg : decode cc pc = .ok (.newarray .byte, 2))
    (kk : ∀ H1 : Heap, cHp g K b (n + 1) s I J R H1 locs → W p l e Rm s m args below meth c H1 locs (cells + 1) (slots + N) Q (F0 m (pc + 2) ls (.ref (g.2.1 n) :: rest))) : W p l e Rm s m args below meth c H locs cells slots Q (F0 m pc ls (.int v :: rest)) :=
  c_newa (ty := .byte) (q := 2) B hw rfl (mT_at 184 rfl rfl) (B.2.1.2 1 _ rfl).2 (mE2 (by rw [hKn])) (by rw [hKn, hw.2.2.2.I (Nat.le_refl n)]; rfl) hv hv0 (by show N * 1 ≤ _; omega) hcells hslots hdg kk
theorem c_newZ (B : cFix p m c cc nL s args own g b) (hw : cHp g K b n s I J R H locs) {N : Nat} (hKn : K n = (3, N)) {v : Int32} (hv : v.toNatClampNeg = N) (hv0 : ¬ v < 0) (hby : N ≤ 100000) (hcells : cells + 1 ≤ Rm.cells) (hslots : slots + N ≤ Rm.slots) (hdg : decode cc pc = .ok (.newarray .boolean, 2))
    (kk : ∀ H1 : Heap, cHp g K b (n + 1) s I J R H1 locs → W p l e Rm s m args below meth c H1 locs (cells + 1) (slots + N) Q (F0 m (pc + 2) ls (.ref (g.2.1 n) :: rest))) : W p l e Rm s m args below meth c H locs cells slots Q (F0 m pc ls (.int v :: rest)) :=
  c_newa (ty := .boolean) (q := 3) B hw rfl (mT_at 168 rfl rfl) (B.2.1.2 2 _ rfl).2 (mE3 (by rw [hKn])) (by rw [hKn, hw.2.2.2.I (Nat.le_refl n)]; rfl) hv hv0 (by show N * 1 ≤ _; omega) hcells hslots hdg kk
theorem c_newL (B : cFix p m c cc nL s args own g b) (hw : cHp g K b n s I J R H locs) {N : Nat} (hKn : K n = (4, N)) {v : Int32} (hv : v.toNatClampNeg = N) (hv0 : ¬ v < 0) (hby : N ≤ 100000) (hcells : cells + 1 ≤ Rm.cells) (hslots : slots + N ≤ Rm.slots) (hdg : decode cc pc = .ok (.newarray .long, 2))
    (kk : ∀ H1 : Heap, cHp g K b (n + 1) s I J R H1 locs → W p l e Rm s m args below meth c H1 locs (cells + 1) (slots + N) Q (F0 m (pc + 2) ls (.ref (g.2.1 n) :: rest))) : W p l e Rm s m args below meth c H locs cells slots Q (F0 m pc ls (.int v :: rest)) :=
  c_newa (ty := .long) (q := 4) B hw rfl (mT_at 167 rfl rfl) (B.2.1.2 3 _ rfl).2 (mE4 (by rw [hKn])) (by rw [hKn, hw.2.2.2.J (Nat.le_refl n)]; rfl) hv hv0 (by show N * 8 ≤ _; omega) hcells hslots hdg kk
end CROW
