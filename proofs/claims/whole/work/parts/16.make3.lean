theorem c_at {l : Launch} {p : Program} {e : Env} {Rm : Room} {s : State} {m : MethodId} {args : Array Value} {below : List Frame} {meth : Method} {c : Code} {H : Heap} {locs : List Loc} {cells slots : Nat} {Q : State → Prop} {gf : JFrame} {g : mG} {K : mK} {b n : Nat} {I : mI} {J : mJ} {R : mR} (hg : ∀ i, g.2.1 i = b + i) (hc : s.heap.size + cells = b + n) (hn : 0 < n) (hP : va_P g.1 vwCl (mws g K n I J R) H) (hS : va_S (up b) s.heap H locs) (hf : fresh n I J R)
    (kk : cHp g K b n s I J R H locs → W p l e Rm s m args below meth c H locs cells slots Q gf) : W p l e Rm s m args below meth c H locs cells slots Q gf := by
  intro T hT X
  have hu := X.heapSize
  rw [hT] at hu
  have h1 : g.2.1 (n - 1) < H.size := (hP (n - 1) _ (mws_at (show n - 1 < n by omega))).lt
  rw [hg] at h1
  exact kk ⟨hP, hS, by omega, hf⟩ T hT X
section CROW3
variable {p : Program} {l : Launch} {e : Env} {Rm : Room} {s : State} {m : MethodId} {args : Array Value} {below : List Frame} {meth : Method} {c : Code} {H : Heap} {locs : List Loc} {cells slots : Nat} {Q : State → Prop}
variable {cc : ByteArray} {pc : Nat} {ls : Array Slot} {rest : List Value} {own : String} {nL : Nat} {g : mG} {K : mK} {b n : Nat} {I : mI} {J : mJ} {R : mR}
theorem c_pi (B : cFix p m c cc nL s args own g b) (hw : cHp g K b n s I J R H locs) (hc : s.heap.size + cells = b + n) {index ci k N : Nat} {C : String} {T : u_T} {ty0 : Nat → FieldType} (F : mPu own index ci k C T N ty0 .int false) (hr : mIR ci k = false) {a : Nat} {x : Int32} (hn : a < n) (ha : K a = (0, ci)) (hdg : decode cc pc = .ok (.putfield index, 3))
    (kk : ∀ (H1 : Heap) (locs1 : List Loc), cHp g K b n s (mup I a k x) J R H1 locs1 → W p l e Rm s m args below meth c H1 locs1 cells slots Q (F0 m (pc + 3) ls rest)) : W p l e Rm s m args below meth c H locs cells slots Q (F0 m pc ls (.int x :: .ref (g.2.1 a) :: rest)) := by
  obtain ⟨S, hK, hg, hZ, hbs⟩ := B
  obtain ⟨hP, hS, hz, hf⟩ := hw
  obtain ⟨⟨f1, f2, f3, f4, f5⟩, p1, p2, p3, p4⟩ := F
  have he := mws_at (g := g) (K := K) (I := I) (J := J) (R := R) hn
  rw [mE0 ha] at he
  have hkn : k < mNF ci := by rw [f3]; exact f2
  refine va_put S.1 S.2.1 S.2.2.2.2 f5 ty0 p1 p2 S.2.2.2.1 hK hP (cD hg) hS a he f1 k f2 (S.2.2.2.2 _ f4) (fun _ h => h) p3 (v := .int x) p4 (vp_nar_int x) rfl (by rw [mFs_len]; exact hkn) hdg (fun H1 locs1 hP1 _ hS1 => ?_)
  rw [mFs_setI hkn hr, ← mE0 (J := J) ha, mws_set hn (fun i hi => mE_upI hi)] at hP1
  exact c_at hg hc (by omega) hP1 hS1 (hf.uI hn x) (kk H1 locs1)
theorem c_pr (B : cFix p m c cc nL s args own g b) (hw : cHp g K b n s I J R H locs) (hc : s.heap.size + cells = b + n) {index ci k N : Nat} {C : String} {T : u_T} {ty0 : Nat → FieldType} {ty : FieldType} (F : mPu own index ci k C T N ty0 ty false) (hr : mIR ci k = true) {a : Nat} {x : Nat} (hn : a < n) (ha : K a = (0, ci)) (hn1 : narrow ty (.ref (g.2.1 x)) = .ref (g.2.1 x)) (hn2 : fits ty (.ref (g.2.1 x)) = true) (hdg : decode cc pc = .ok (.putfield index, 3))
    (kk : ∀ (H1 : Heap) (locs1 : List Loc), cHp g K b n s I J (mup R a k (some x)) H1 locs1 → W p l e Rm s m args below meth c H1 locs1 cells slots Q (F0 m (pc + 3) ls rest)) : W p l e Rm s m args below meth c H locs cells slots Q (F0 m pc ls (.ref (g.2.1 x) :: .ref (g.2.1 a) :: rest)) := by
  obtain ⟨S, hK, hg, hZ, hbs⟩ := B
  obtain ⟨hP, hS, hz, hf⟩ := hw
  obtain ⟨⟨f1, f2, f3, f4, f5⟩, p1, p2, p3, p4⟩ := F
  have he := mws_at (g := g) (K := K) (I := I) (J := J) (R := R) hn
  rw [mE0 ha] at he
  have hkn : k < mNF ci := by rw [f3]; exact f2
  refine va_put S.1 S.2.1 S.2.2.2.2 f5 ty0 p1 p2 S.2.2.2.1 hK hP (cD hg) hS a he f1 k f2 (S.2.2.2.2 _ f4) (fun _ h => h) p3 (v := .ref (g.2.1 x)) p4 hn1 hn2 (by rw [mFs_len]; exact hkn) hdg (fun H1 locs1 hP1 _ hS1 => ?_)
  rw [show (Value.ref (g.2.1 x)) = va_rf ((some x).map g.2.1) from rfl, mFs_setR hkn hr, ← mE0 (J := J) ha, mws_set hn (fun i hi => mE_upR hi)] at hP1
  exact c_at hg hc (by omega) hP1 hS1 (hf.uR hn (some x)) (kk H1 locs1)
theorem c_prF (B : cFix p m c cc nL s args own g b) (hw : cHp g K b n s I J R H locs) (hc : s.heap.size + cells = b + n) {index ci k N : Nat} {C : String} {T : u_T} {ty0 : Nat → FieldType} {ty : FieldType} (F : mPu own index ci k C T N ty0 ty true) (hr : mIR ci k = true) (hmn : meth.name = "<init>") (hdecl : (T k).1 = own) {a : Nat} {x : Nat} (hn : a < n) (ha : K a = (0, ci)) (hn1 : narrow ty (.ref (g.2.1 x)) = .ref (g.2.1 x)) (hn2 : fits ty (.ref (g.2.1 x)) = true) (hdg : decode cc pc = .ok (.putfield index, 3))
    (kk : ∀ (H1 : Heap) (locs1 : List Loc), cHp g K b n s I J (mup R a k (some x)) H1 locs1 → W p l e Rm s m args below meth c H1 locs1 cells slots Q (F0 m (pc + 3) ls rest)) : W p l e Rm s m args below meth c H locs cells slots Q (F0 m pc ls (.ref (g.2.1 x) :: .ref (g.2.1 a) :: rest)) := by
  obtain ⟨S, hK, hg, hZ, hbs⟩ := B
  obtain ⟨hP, hS, hz, hf⟩ := hw
  obtain ⟨⟨f1, f2, f3, f4, f5⟩, p1, p2, p3, p4⟩ := F
  have he := mws_at (g := g) (K := K) (I := I) (J := J) (R := R) hn
  rw [mE0 ha] at he
  have hkn : k < mNF ci := by rw [f3]; exact f2
  refine va_putF S.1 S.2.1 S.2.2.2.2 f5 ty0 p1 p2 S.2.2.2.1 hK hP (cD hg) hS a he f1 k f2 (S.2.2.2.2 _ f4) (fun _ h => h) p3 hmn hdecl (v := .ref (g.2.1 x)) p4 hn1 hn2 (by rw [mFs_len]; exact hkn) hdg (fun H1 locs1 hP1 _ hS1 => ?_)
  rw [show (Value.ref (g.2.1 x)) = va_rf ((some x).map g.2.1) from rfl, mFs_setR hkn hr, ← mE0 (J := J) ha, mws_set hn (fun i hi => mE_upR hi)] at hP1
  exact c_at hg hc (by omega) hP1 hS1 (hf.uR hn (some x)) (kk H1 locs1)
theorem c_gr (B : cFix p m c cc nL s args own g b) (hw : cHp g K b n s I J R H locs) {index ci k N : Nat} {C : String} {T : u_T} (F : mFl own index ci k C T N) (hr : mIR ci k = true) {a x : Nat} (hn : a < n) (ha : K a = (0, ci)) (hx : R a k = some x) (hdg : decode cc pc = .ok (.getfield index, 3))
    (kk : W p l e Rm s m args below meth c H locs cells slots Q (F0 m (pc + 3) ls (.ref (g.2.1 x) :: rest))) : W p l e Rm s m args below meth c H locs cells slots Q (F0 m pc ls (.ref (g.2.1 a) :: rest)) := by
  obtain ⟨S, hK, hg, hZ, hbs⟩ := B
  obtain ⟨f1, f2, f3, f4, f5⟩ := F
  have he := mws_at (g := g) (K := K) (I := I) (J := J) (R := R) hn
  rw [mE0 ha] at he
  refine va_get S.1 S.2.1 S.2.2.2.2 f5 S.2.2.2.1 hK hw.1 a he f1 k f2 (S.2.2.2.2 _ f4) (fun _ h => h) (v := .ref (g.2.1 x)) ?_ hdg kk
  rw [mFs_at (by rw [f3]; exact f2), hx]
  simp [hr, va_rf]
theorem c_st1 (B : cFix p m c cc nL s args own g b) (hw : cHp g K b n s I J R H locs) (hc : s.heap.size + cells = b + n) {a : Nat} {i x : Int32} (hn : a < n) (ha : mIx K a 1 i) (hdg : decode cc pc = .ok (.iastore, 1))
    (kk : ∀ (H1 : Heap) (locs1 : List Loc), cHp g K b n s (mup I a i.toNatClampNeg x) J R H1 locs1 → W p l e Rm s m args below meth c H1 locs1 cells slots Q (F0 m (pc + 1) ls rest)) : W p l e Rm s m args below meth c H locs cells slots Q (F0 m pc ls (.int x :: .int i :: .ref (g.2.1 a) :: rest)) := by
  obtain ⟨S, hK, hg, hZ, hbs⟩ := B
  obtain ⟨hP, hS, hz, hf⟩ := hw
  have he := mws_at (g := g) (K := K) (I := I) (J := J) (R := R) hn
  rw [mE1 ha.1] at he
  refine va_iast S.1 S.2.1 hK hP (cD hg) hS a 0 he rfl (mIx_in ha) hdg (fun H1 locs1 hP1 _ hS1 => ?_)
  rw [← mup_self, ← mE1 (J := J) (R := R) ha.1, mws_set hn (fun i hi => mE_upI hi)] at hP1
  exact c_at hg hc (by omega) hP1 hS1 (hf.uI hn x) (kk H1 locs1)
theorem c_stq (B : cFix p m c cc nL s args own g b) (hw : cHp g K b n s I J R H locs) (hc : s.heap.size + cells = b + n) {a x : Nat} {i : Int32} (hn : a < n) (hxn : x < n) (ha : mIx K a 5 i) (hx : K x = (0, 1)) (hdg : decode cc pc = .ok (.aastore, 1))
    (kk : ∀ (H1 : Heap) (locs1 : List Loc), cHp g K b n s I J (mup R a i.toNatClampNeg (some x)) H1 locs1 → W p l e Rm s m args below meth c H1 locs1 cells slots Q (F0 m (pc + 1) ls rest)) : W p l e Rm s m args below meth c H locs cells slots Q (F0 m pc ls (.ref (g.2.1 x) :: .int i :: .ref (g.2.1 a) :: rest)) := by
  obtain ⟨S, hK, hg, hZ, hbs⟩ := B
  obtain ⟨hP, hS, hz, hf⟩ := hw
  have he := mws_at (g := g) (K := K) (I := I) (J := J) (R := R) hn
  rw [mE5 ha.1] at he
  have hv := mws_at (g := g) (K := K) (I := I) (J := J) (R := R) hxn
  rw [mE0 hx] at hv
  refine va_astq (r := (RX1, TX1, 8)) S.1 S.2.1 hK hP (cD hg) hS a 4 x 1 he rfl hv rfl (mIx_in ha) hdg (fun H1 locs1 hP1 _ hS1 => ?_)
  have e : va_up (fun j => (R a j).map g.2.1) i.toNatClampNeg (some (g.2.1 x)) = fun j => (mup R a i.toNatClampNeg (some x) a j).map g.2.1 := by
    funext j
    unfold va_up
    by_cases q : j = i.toNatClampNeg
    · subst q; rw [if_pos rfl, mup_eq]; rfl
    · rw [if_neg q, mup_ne _ _ (fun z => q z.2)]
  rw [e, ← mE5 (I := I) (J := J) ha.1, mws_set hn (fun i hi => mE_upR hi)] at hP1
  exact c_at hg hc (by omega) hP1 hS1 (hf.uR hn (some x)) (kk H1 locs1)
/-- a constructor is called -/
theorem c_call {I' : mI} {J' : mJ} {R' : mR} {y : MethodName} {cc' : ByteArray} {mL index a n' mc ms : Nat} {rm : Room} (B : cFix p m c cc nL s args own g b) (hw : cHp g K b n s I J R H locs)
    (V : Cond.methodLink own index y ∈ mT ∧ Cond.instanceMethod y ∈ mT ∧ Cond.initialized y.cls ∈ mT ∧ Cond.code y cc' mL none ∈ mT ∧ y.name = "<init>" ∧ (y.cls ≠ "java/lang/invoke/MethodHandle" ∧ y.cls ≠ "java/lang/invoke/VarHandle" ∧ (parseMethodDescriptor y.desc).map (fun d => d.parameters.length) = some 0))
    (hM : Met l y (mWs y cc' mL none) rm (va_Pc [.ref (g.2.1 a)] (cB g K b n I J R)) (cQ g K b n' I' J' R') mc ms (up b)) (hrm : rm.cells = mc ∧ rm.slots = ms ∧ rm.frames + 1 ≤ Rm.frames ∧ 8 + (mL + 11) + rm.locals ≤ Rm.locals) (hc : s.heap.size + (cells + mc) = b + n') (hn' : 0 < n') (hfr : fresh n' I' J' R') (hls : ls.size = nL) (hrest : (rest.map fun v => v.category).sum ≤ 8) (hcs : cells + mc ≤ Rm.cells ∧ slots + ms ≤ Rm.slots) (hdg : decode cc pc = .ok (.invokespecial index, 3))
    (kk : ∀ (H1 : Heap) (locs1 : List Loc), cHp g K b n' s I' J' R' H1 locs1 → W p l e Rm s m args below meth c H1 locs1 (cells + mc) (slots + ms) Q (F0 m (pc + 3) ls rest)) : W p l e Rm s m args below meth c H locs cells slots Q (F0 m pc ls (.ref (g.2.1 a) :: rest)) := by
  obtain ⟨S, hK, hg, hZ, hbs⟩ := B
  obtain ⟨hP, hS, hz, hf⟩ := hw
  obtain ⟨v1, v2, v3, v4, v5, v6⟩ := V
  have run := va_runI (locs := locs) (below := below) (e := e) (meth := meth) (cells := cells) (slots := slots) (As := []) (rest := rest) (b := g.2.1 a) (g := F0 m pc ls (.ref (g.2.1 a) :: rest)) S hM (cwI 0 S.2.2.2.2 (mT_good (mWs_in v4)) rfl hrm.1 hrm.2.1 (S.2.2.2.2 _ v3) (S.2.2.2.2 _ v1) (S.2.2.2.2 _ v2) v5 v6 hrm.2.2) ⟨cB_blind, fun U hU hW => ⟨rfl, by rw [hU]; exact hP, va_K.moved hW.alike hK, ⟨mZ_go hZ.1 hW hU hS.2.1, hZ.2.go hW.alike⟩, by rw [hU]; exact hz⟩⟩ rfl rfl hls rfl (lv_room hrest) hdg hcs
  intro T hT X
  obtain ⟨v, st₀, t, T', L, h0, X', hL, e1, e2, ⟨hv, hP', hz', hk'⟩, st⟩ := run T hT X
  cases hv
  rw [h0] at hz' hk'
  have hS1 : va_S (up b) s.heap T'.heap (locs ++ L) := ⟨Nat.le_trans hS.1 (by rw [e1]; exact hz'), fun q h1 h2 => by rw [e1, hk' q (Nat.lt_of_lt_of_le h1 hS.1) h2]; exact hS.2.1 q h1 h2, fun q hq => by
      rcases List.mem_append.mp hq with h | h
      · exact hS.2.2 q h
      · exact hL q h⟩
  obtain ⟨t2, a1, b1⟩ := c_at (Q := Q) (gf := F0 m (pc + 3) ls rest) hg hc hn' (by rw [e1]; exact hP') hS1 hfr (kk T'.heap (locs ++ L)) T' rfl X'
  exact ⟨t2, st t2 a1, b1⟩
/-- a method that makes nothing is called while more is to be made -/
theorem c_callV {I' : mI} {J' : mJ} {R' : mR} {y : MethodName} {cc' : ByteArray} {mL index ci a N : Nat} {rm : Room} {C : String} {T : u_T} (B : cFix p m c cc nL s args own g b) (hw : cHp g K b n s I J R H locs) (V : mCV own index C y cc' mL none 0) (hc : vwCl[ci]? = some (C, T, N)) (ha : K a = (0, ci)) (han : a < n)
    (hM : Met l y (mWs y cc' mL none) rm (va_Pc [.ref (g.2.1 a)] (mB g (kr K n) n I J R)) (mQ g (kr K n) n none I' J' R') 0 0 (mA g n)) (hrm : rm.cells = 0 ∧ rm.slots = 0 ∧ rm.frames + 1 ≤ Rm.frames ∧ 8 + (mL + 11) + rm.locals ≤ Rm.locals) (hcc : s.heap.size + cells = b + n) (hfr : fresh n I' J' R') (hls : ls.size = nL) (hrest : (rest.map fun v => v.category).sum ≤ 8) (hcs : cells ≤ Rm.cells ∧ slots ≤ Rm.slots) (hdg : decode cc pc = .ok (.invokevirtual index, 3))
    (kk : ∀ (H1 : Heap) (locs1 : List Loc), cHp g K b n s I' J' R' H1 locs1 → W p l e Rm s m args below meth c H1 locs1 cells slots Q (F0 m (pc + 3) ls rest)) : W p l e Rm s m args below meth c H locs cells slots Q (F0 m pc ls (.ref (g.2.1 a) :: rest)) := by
  obtain ⟨S, hK, hg, hZ, hbs⟩ := B
  obtain ⟨hP, hS, hz, hf⟩ := hw
  obtain ⟨v1, v2, v3, v4, v5, v6⟩ := V
  have he := mws_at (g := g) (K := K) (I := I) (J := J) (R := R) han
  rw [mE0 ha] at he
  have hG : GoodIn mT (wsV own index C y (mWs y cc' mL none)) := mT_good (fun w hw => by
    rcases List.mem_append.mp hw with h | h
    · simp only [List.mem_cons, List.not_mem_nil, or_false] at h
      rcases h with rfl | rfl | rfl | rfl <;> assumption
    · exact mWs_in v5 w h)
  have run := va_runV (locs := locs) (below := below) (e := e) (meth := meth) (cells := cells) (slots := slots) (H := H) (As := []) (rest := rest) (b := g.2.1 a) (g := F0 m pc ls (.ref (g.2.1 a) :: rest)) S hM (cwV (n := 0) S.2.2.2.2 hG rfl hrm.1 hrm.2.1 v6 hrm.2.2) ⟨mB_blind, va_recv hK hP hc he, fun U hU hW => ⟨rfl, by rw [hU, mws_kr]; exact hP, va_K.moved hW.alike hK, (mZ_go hZ.1 hW hU hS.2.1).narrow (mA_up hg)⟩⟩ rfl rfl hls rfl (lv_room hrest) hdg hcs
  intro T hT X
  obtain ⟨v, st₀, t, T', L, h0, X', hL, e1, e2, ⟨hv, hP', hz', hk'⟩, st⟩ := run T hT X
  cases hv
  rw [h0] at hz' hk'
  rw [mws_kr] at hP'
  have hS1 : va_S (up b) s.heap T'.heap (locs ++ L) := ⟨Nat.le_trans hS.1 (by rw [e1]; exact hz'), fun q h1 h2 => by rw [e1, hk' q (Nat.lt_of_lt_of_le h1 hS.1) (fun z => h2 (mA_up hg q z))]; exact hS.2.1 q h1 h2, fun q hq => by
      rcases List.mem_append.mp hq with h | h
      · exact hS.2.2 q h
      · exact mA_up hg _ (hL q h)⟩
  obtain ⟨t2, a1, b1⟩ := c_at (Q := Q) (gf := F0 m (pc + 3) ls rest) hg hcc (by omega) (by rw [e1]; exact hP') hS1 hfr (kk T'.heap (locs ++ L)) T' rfl X'
  exact ⟨t2, st t2 a1, b1⟩
theorem c_ret {av : Array Value} (hx : p.tables.exec = Jvm.exec) (hb : c.code = cc) (hr : meth.sig.returnType = none) (hlk : meth.locks = false) (hw : cHp g K b n s I J R H locs) (hdg : decode cc pc = .ok (.return_, 1)) : W p l e Rm s m av below meth c H locs cells slots (MQ below (cQ g K b n I J R) av s cells slots (up b)) (F0 m pc ls []) :=
  W.vret hx hb hr (fun t ht _ => ⟨rfl, by rw [ht]; exact hw.1, hw.2.1.F ht⟩) hw.2.1.2.2 hdg
end CROW3
