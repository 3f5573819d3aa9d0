/-! ===== the law from its entry ===== -/
theorem tb_in {w : Cond} (i : Nat) (h : tables_1[i]? = some w) : w ∈ lw_tbl := List.mem_append_right _ (List.mem_of_getElem? h)
set_option maxRecDepth 20000 in
theorem st_D {s : State} {args : Array Value} (hts : ∀ w ∈ mT, w.before args s = true) : ∃ D : va_G, ∀ (k : Nat) (q : vw_C), vwCl[k]? = some q → u_Kn s q.1 q.2.1 q.2.2 (D.1 k) (D.2 k) := by
  obtain ⟨c0, i0, h0⟩ := u_known (C := RX0) (T := TX0) (N := 3) (n := 3) hts inX_X0 (hts (.instantiable RX0 3) (mT_at 87 rfl rfl))
  obtain ⟨c1, i1, h1⟩ := u_known (C := RX1) (T := TX1) (N := 8) (n := 8) hts inX_X1 (hts (.instantiable RX1 8) (mT_at 32 rfl rfl))
  obtain ⟨c2, i2, h2⟩ := u_known (C := RX2) (T := TX2) (N := 2) (n := 2) hts inX_X2 (hts (.instantiable RX2 2) (mT_at 25 rfl rfl))
  obtain ⟨c3, i3, h3⟩ := u_known (C := RX3) (T := TX3) (N := 4) (n := 4) hts inX_X3 (hts (.instantiable RX3 4) (mT_at 211 rfl rfl))
  obtain ⟨c4, i4, h4⟩ := u_known (C := RX4) (T := TX4) (N := 10) (n := 10) hts inX_X4 (hts (.instantiable RX4 10) (mT_at 124 rfl rfl))
  obtain ⟨c5, i5, h5⟩ := u_known (C := RX5) (T := TX5) (N := 5) (n := 5) hts inX_X5 (hts (.instantiable RX5 5) (mT_at 186 rfl rfl))
  obtain ⟨c6, i6, h6⟩ := u_known (C := RX6) (T := TX6) (N := 3) (n := 3) hts inX_X6 (hts (.instantiable RX6 3) (mT_at 107 rfl rfl))
  obtain ⟨c7, i7, h7⟩ := u_known (C := RX7) (T := TX7) (N := 2) (n := 2) hts inX_X7 (hts (.instantiable RX7 2) (mT_at 170 rfl rfl))
  obtain ⟨c8, i8, h8⟩ := u_known (C := RX8) (T := TX8) (N := 10) (n := 10) hts inX_X8 (hts (.instantiable RX8 10) (mT_at 17 rfl rfl))
  obtain ⟨c9, i9, h9⟩ := u_known (C := RX9) (T := TX9) (N := 23) (n := 23) hts inX_X9 (hts (.instantiable RX9 23) (mT_at 669 rfl rfl))
  refine ⟨(fun k => match k with | 0 => c0 | 1 => c1 | 2 => c2 | 3 => c3 | 4 => c4 | 5 => c5 | 6 => c6 | 7 => c7 | 8 => c8 | _ => c9, fun k => match k with | 0 => i0 | 1 => i1 | 2 => i2 | 3 => i3 | 4 => i4 | 5 => i5 | 6 => i6 | 7 => i7 | 8 => i8 | _ => i9), fun k q hq => ?_⟩
  match k, hq with
  | 0, hq => cases hq; exact h0
  | 1, hq => cases hq; exact h1
  | 2, hq => cases hq; exact h2
  | 3, hq => cases hq; exact h3
  | 4, hq => cases hq; exact h4
  | 5, hq => cases hq; exact h5
  | 6, hq => cases hq; exact h6
  | 7, hq => cases hq; exact h7
  | 8, hq => cases hq; exact h8
  | 9, hq => cases hq; exact h9
  | k + 10, hq => simp at hq
theorem st_a {s : State} {args : Array Value} {ty : FieldType} (h : (Cond.arrayClass ty).before args s = true) : ∃ c : ClassId, ArrOfT s c ty ∧ s.vm.findClass ("[" ++ ty.toString) = some c := by
  obtain ⟨c, k, comp, h1, h2, h3⟩ := Cond.arrayClass_spec h
  exact ⟨c, fun N z => ⟨(fun k h => by cases h), k, h2, comp, h3⟩, h1⟩
theorem st_o {s : State} {args : Array Value} {C : String} (h : (Cond.arrayOver (.object C)).before args s = true) : ∃ c : ClassId, ArrOfT s c (.object C) ∧ va_RA s c (.object C) := by
  obtain ⟨comp, c, k, h1, h2, h3, h4, h5⟩ := Cond.arrayOver_spec h
  exact ⟨c, fun N z => ⟨(fun k h => by cases h), k, h3, comp, h4⟩, k, comp, h3, h4, h1, h5⟩
theorem st_q {s : State} {args : Array Value} {t : FieldType} (h : (Cond.arrayOver (.array t)).before args s = true) : ∃ c : ClassId, ArrOfT s c (.array t) ∧ s.vm.findClass ("[" ++ (FieldType.array t).toString) = some c := by
  obtain ⟨comp, c, k, h1, h2, h3, h4, h5⟩ := arrayOverA_spec h
  exact ⟨c, fun N z => ⟨(fun k h => by cases h), k, h3, comp, h4⟩, h5⟩
set_option maxRecDepth 20000 in
theorem st_A {s : State} {args : Array Value} (hts : ∀ w ∈ lw_tbl, w.before args s = true) : ∃ f : Nat → ClassId, ∀ (k : Nat) (q : ClassId × FieldType), ([(f 1, .int), (f 2, .byte), (f 3, .boolean), (f 4, .long), (f 5, .object "NamedAgain$Card"), (f 6, .array .int), (f 7, .array .long)] : List (ClassId × FieldType))[k]? = some q → ArrOfT s q.1 q.2 ∧ va_RA s q.1 q.2 := by
  obtain ⟨c1, a1, b1⟩ := st_a (hts (.arrayClass .int) (tb_in 75 rfl))
  obtain ⟨c2, a2, b2⟩ := st_a (hts (.arrayClass .byte) (tb_in 184 rfl))
  obtain ⟨c3, a3, b3⟩ := st_a (hts (.arrayClass .boolean) (tb_in 168 rfl))
  obtain ⟨c4, a4, b4⟩ := st_a (hts (.arrayClass .long) (tb_in 167 rfl))
  obtain ⟨c5, a5, b5⟩ := st_o (hts (.arrayOver (.object "NamedAgain$Card")) (tb_in 31 rfl))
  obtain ⟨c6, a6, b6⟩ := st_q (hts (.arrayOver (.array .int)) (tb_in 130 rfl))
  obtain ⟨c7, a7, b7⟩ := st_q (hts (.arrayOver (.array .long)) (tb_in 132 rfl))
  refine ⟨fun k => match k with | 1 => c1 | 2 => c2 | 3 => c3 | 4 => c4 | 5 => c5 | 6 => c6 | _ => c7, fun k q hq => ?_⟩
  match k, hq with
  | 0, hq => cases hq; exact ⟨a1, b1⟩
  | 1, hq => cases hq; exact ⟨a2, b2⟩
  | 2, hq => cases hq; exact ⟨a3, b3⟩
  | 3, hq => cases hq; exact ⟨a4, b4⟩
  | 4, hq => cases hq; exact ⟨a5, b5⟩
  | 5, hq => cases hq; exact ⟨a6, b6⟩
  | 6, hq => cases hq; exact ⟨a7, b7⟩
  | k + 7, hq => simp at hq
abbrev st_F : List Cond := flatC (Jvm.Cond.and given_1 narrow_1)
abbrev st_t (i : Nat) : Term := .string RX5 (mSk i).1
set_option maxRecDepth 100000 in
theorem st_1 : ∀ i : Nat, i < 8 → Cond.exactly (st_t i) "java/lang/String" ∈ st_F := by decide +kernel
set_option maxRecDepth 100000 in
theorem st_2 : ∀ i : Nat, i < 8 → Cond.eq (.field (st_t i) "java/lang/String" "coder" "B") (.int 0) ∈ st_F := by decide +kernel
set_option maxRecDepth 100000 in
theorem st_3 : ∀ i : Nat, i < 8 → Cond.arrayOf (.field (st_t i) "java/lang/String" "value" "[B") .byte ∈ st_F := by decide +kernel
set_option maxRecDepth 100000 in
theorem st_4 : ∀ i : Nat, i < 8 → Cond.eq (.length (.field (st_t i) "java/lang/String" "value" "[B")) (.int (Int32.ofNat (mSl.getD i 0))) ∈ st_F := by decide +kernel
set_option maxRecDepth 100000 in
theorem st_5 : ∀ i : Nat, i < 8 → ∀ j : Nat, j < mSl.getD i 0 → Cond.eq (.elem (.field (st_t i) "java/lang/String" "value" "[B") (.int (Int32.ofNat j))) (.int ((mSb.getD i []).getD j 0)) ∈ st_F := by decide +kernel
set_option maxRecDepth 100000 in
theorem st_6 : ∀ i : Nat, i < 8 → ∀ j : Nat, j < 8 → i ≠ j → (Cond.not (Cond.eq (st_t i) (st_t j)) ∈ st_F ∨ Cond.not (Cond.eq (st_t j) (st_t i)) ∈ st_F) := by decide +kernel
theorem st_8 : ∀ i : Nat, i < 8 → mSl.getD i 0 < 2 ^ 31 := by decide +kernel
set_option maxRecDepth 20000 in
theorem st_7 : ∀ i : Nat, i < 8 → Cond.stringRef RX5 (mSk i).1 (mSk i).2 ∈ lw_tbl := fun i hi => by
  match i, hi with
  | 0, _ => exact tb_in 562 rfl
  | 1, _ => exact tb_in 628 rfl
  | 2, _ => exact tb_in 633 rfl
  | 3, _ => exact tb_in 634 rfl
  | 4, _ => exact tb_in 635 rfl
  | 5, _ => exact tb_in 640 rfl
  | 6, _ => exact tb_in 641 rfl
  | 7, _ => exact tb_in 642 rfl
  | k + 8, h => omega
set_option maxRecDepth 20000 in
theorem st_N : ∀ q ∈ mNs, Cond.methodLinkNest q.1 q.2 yX8_within "NamedAgain" ∈ lw_tbl := fun q hq => by
  unfold mNs at hq
  simp only [List.mem_cons, List.not_mem_nil, or_false] at hq
  rcases hq with rfl | rfl | rfl
  · exact tb_in 390 rfl
  · exact tb_in 431 rfl
  · exact tb_in 571 rfl
set_option maxRecDepth 20000 in
theorem st_Z {s : State} {b0 : Nat} (hts : ∀ w ∈ lw_tbl, w.before #[Value.ref b0] s = true) (hgv : (Jvm.Cond.and given_1 narrow_1).before #[Value.ref b0] s = true) (D : va_G) (f : Nat → Nat) (h : Nat → ClassId) : ∃ adK adV : Nat → Nat, mZ (D, f, h, adK, adV) (up s.heap.size) s s.heap := by
  have hs : ∀ w ∈ st_F, w.before #[Value.ref b0] s = true := flat_of_before _ hgv
  have hA : ∀ a : Nat, a < s.heap.size → ¬ up s.heap.size a := fun a h => Nat.not_le.mpr h
  obtain ⟨adK, adV, h1, h2⟩ := vk_Sof (args := #[Value.ref b0]) (s := s) (N := 8) (tm := st_t) (len := mSl) (byt := mSb) (A := up s.heap.size) st_8 (fun i hi => hs _ (st_1 i hi)) (fun i hi => hs _ (st_2 i hi)) (fun i hi => hs _ (st_3 i hi)) (fun i hi => hs _ (st_4 i hi)) (fun i hi j hj => hs _ (st_5 i hi j hj)) (fun i j hi hj hij => (st_6 i hi j hj hij).elim (fun h => Or.inl (hs _ h)) (fun h => Or.inr (hs _ h))) hA
  refine ⟨adK, adV, fun q hq => va_Nw.of rfl (hts _ (st_N q hq)), fun i hi => vk_R.of (hts _ (st_7 i hi)) (h2 i hi), h1, ?_, ?_⟩
  · exact va_Zof (hts _ (tb_in 581 rfl)) (hts _ (tb_in 12 rfl)) (va_eqi (hs _ (by decide +kernel))) hA
  · exact va_Zqof (hts _ (tb_in 597 rfl)) (hts _ (tb_in 14 rfl)) (hs _ (by decide +kernel)) hA
set_option maxRecDepth 20000 in
theorem vnL_7 : Cond.classLink RL 7 RX8 ∈ mT ∧ Cond.instantiable RX8 10 ∈ mT ∧ Cond.initialized RX8 ∈ mT := ⟨mT_at 16 rfl rfl, mT_at 17 rfl rfl, mT_at 1 rfl rfl⟩
set_option maxRecDepth 20000 in
theorem vnL_10 : Cond.classLink RL 10 RX9 ∈ mT ∧ Cond.instantiable RX9 23 ∈ mT ∧ Cond.initialized RX9 ∈ mT := ⟨mT_at 668 rfl rfl, mT_at 669 rfl rfl, mT_at 10 rfl rfl⟩
set_option maxRecDepth 20000 in
theorem viL_9 : Cond.methodLink RL 9 yX8_init ∈ mT ∧ Cond.instanceMethod yX8_init ∈ mT ∧ Cond.initialized yX8_init.cls ∈ mT ∧ Cond.code yX8_init cX8_init 1 none ∈ mT ∧ yX8_init.name = "<init>" ∧ (yX8_init.cls ≠ "java/lang/invoke/MethodHandle" ∧ yX8_init.cls ≠ "java/lang/invoke/VarHandle" ∧ (parseMethodDescriptor yX8_init.desc).map (fun d => d.parameters.length) = some 0) := ⟨mT_at 18 rfl rfl, mT_at 19 rfl rfl, mT_at 1 rfl rfl, mT_at 20 rfl rfl, rfl, by decide, by decide, by decide +kernel⟩
set_option maxRecDepth 20000 in
theorem viL_12 : Cond.methodLink RL 12 yX9_init ∈ mT ∧ Cond.instanceMethod yX9_init ∈ mT ∧ Cond.initialized yX9_init.cls ∈ mT ∧ Cond.code yX9_init cX9_init 1 none ∈ mT ∧ yX9_init.name = "<init>" ∧ (yX9_init.cls ≠ "java/lang/invoke/MethodHandle" ∧ yX9_init.cls ≠ "java/lang/invoke/VarHandle" ∧ (parseMethodDescriptor yX9_init.desc).map (fun d => d.parameters.length) = some 0) := ⟨mT_at 670 rfl rfl, mT_at 671 rfl rfl, mT_at 10 rfl rfl, mT_at 672 rfl rfl, rfl, by decide, by decide, by decide +kernel⟩
theorem fresh.k9 {I : mI} {J : mJ} {R : mR} (h : fresh (190 + 1) I J R) : fresh (190 + 17) (iK9 190 I) J (rK9 190 R) := fun i k hi => ⟨by
    unfold iK9
    repeat rw [mup_ne _ _ (by omega)]
    exact (h i k (by omega)).1, (h i k (by omega)).2.1, by
    unfold rK9
    repeat rw [mup_ne _ _ (by omega)]
    exact (h i k (by omega)).2.2⟩
set_option maxHeartbeats 8000000 in
set_option maxRecDepth 100000 in
/-- THE LAW, from its entry -/
theorem whole_start {p : Program} {e : Env} {s : State} {m : MethodId} {below : List Frame} {meth : Method} {c : Code} (l : Launch) {b L : Nat} {xs : Nat → Int32} (hL : L ≤ 3072) (C0 : lw_At p s m meth c b L xs) : W p l e room_1 s m #[Value.ref b] below meth c s.heap [] 0 0 (lw_Z below #[Value.ref b] s) (entryFrame m ([Value.ref b] : List Value).toArray 4) := by
  obtain ⟨hx, hb, hr, hml, hown, hts, hX, hbl, hlocks, hgv⟩ := id C0
  have htm : ∀ w ∈ mT, w.before #[Value.ref b] s = true := fun w hw => hts w (List.mem_filter.mp hw).1
  obtain ⟨g, hg, hK, hZ⟩ : ∃ g : mG, (∀ i, g.2.1 i = s.heap.size + i) ∧ va_K g.1 vwCl (mTys g) s ∧ mZ g (up s.heap.size) s s.heap := by
    obtain ⟨D, hD⟩ := st_D htm
    obtain ⟨f, hf⟩ := st_A hts
    obtain ⟨adK, adV, hZ⟩ := st_Z hts hgv D (fun i => s.heap.size + i) f
    exact ⟨(D, fun i => s.heap.size + i, f, adK, adV), fun _ => rfl, ⟨hD, hf⟩, hZ⟩
  have hO : cO s := ⟨hts _ (tb_in 31 rfl), hts _ (tb_in 130 rfl), hts _ (tb_in 132 rfl)⟩
  have B : cFix p m c cL_law 4 s #[Value.ref b] RL g s.heap.size := ⟨⟨hx, hb, hml, hown, htm⟩, hK, hg, ⟨hZ, hO⟩, Nat.le_refl _⟩
  have hl := lv_entry ([.ref b]) (n := 4) (Nat.le_of_ble_eq_true rfl)
  rw [lg_entry_eq]
  generalize (lg_sl ([.ref b]) ++ List.replicate (4 - (lg_sl ([.ref b])).length) Slot.unset).toArray = ls at hl ⊢
  have hl : lv_has ls 4 [(0, .ref b)] := hl
  have hw : cHp g kX s.heap.size 0 s zI zJ zR s.heap [] := ⟨fun k q h => by simp [mws] at h, va_S.rf, rfl, fun _ _ _ => ⟨rfl, rfl, rfl⟩⟩
  refine c_new (ci := 8) B hw (show kX 0 = (0, 8) from rfl) rfl inX_X8 tyX8_ok rfl dfX8 vnL_7 (Nat.le_of_ble_eq_true rfl) (Nat.le_of_ble_eq_true rfl) dL_law_0 (fun H hw => ?_)
  refine lv_dup hx hb dL_law_3 rfl ?_
  obtain ⟨I1, x1, x2, x3, M⟩ := k_X8 l g s.heap.size hg
  refine c_call (n' := 190) B hw viL_9 M ⟨rfl, rfl, Nat.le_of_ble_eq_true rfl, Nat.le_of_ble_eq_true rfl⟩ (by omega) (by omega) x3 hl.1 (Nat.le_of_ble_eq_true rfl) ⟨Nat.le_of_ble_eq_true rfl, Nat.le_of_ble_eq_true rfl⟩ dL_law_4 (fun H locs hw => ?_)
  refine lv_astore_n (lv' := [(1, .ref (g.2.1 0)), (0, .ref b)]) hx hb dL_law_7 rfl hl (by decide) rfl (fun ls hl => ?_)
  have hw : cHp g kXM s.heap.size 190 s I1 zJ rF10 H locs := ⟨by
    rw [mws_cK (K' := kX) (fun a h => kXM_lt h)]
    exact hw.1, hw.2⟩
  refine c_new (ci := 9) B hw (show kXM 190 = (0, 9) from rfl) rfl inX_X9 tyX9_ok rfl dfX9 vnL_10 (Nat.le_of_ble_eq_true rfl) (Nat.le_of_ble_eq_true rfl) dL_law_8 (fun H hw => ?_)
  refine lv_dup hx hb dL_law_11 rfl ?_
  refine c_call (n' := 207) B hw viL_12 (k_X9 l g kXM s.heap.size 190 hg I1 zJ rF10 hw.2.2.2 rfl rfl rfl rfl rfl rfl rfl rfl rfl rfl rfl rfl rfl rfl rfl rfl rfl) ⟨rfl, rfl, Nat.le_of_ble_eq_true rfl, Nat.le_of_ble_eq_true rfl⟩ (by omega) (by omega) hw.2.2.2.k9 hl.1 (Nat.le_of_ble_eq_true rfl) ⟨Nat.le_of_ble_eq_true rfl, Nat.le_of_ble_eq_true rfl⟩ dL_law_12 (fun H locs hw => ?_)
  refine lv_astore_n (lv' := [(2, .ref (g.2.1 190)), (1, .ref (g.2.1 0)), (0, .ref b)]) hx hb dL_law_15 rfl hl (by decide) rfl (fun ls hl => ?_)
  refine lv_iconst (v := 0) hx hb dL_law_16 (by decide) ?_
  refine lv_istore_n (lv' := [(3, .int 0), (2, .ref (g.2.1 190)), (1, .ref (g.2.1 0)), (0, .ref b)]) hx hb dL_law_17 rfl hl (by decide) rfl (fun ls hl => ?_)
  have hPX : va_P g.1 vwCl (mws g kX 190 I1 zJ rF10) H := by
    have q := P_X hw.1
    rw [mws_cI (I' := I1) (R' := rF10) (fun a k h => ⟨iK9_lt h, rK9_lt h⟩)] at q
    exact q
  obtain ⟨gM, hgM⟩ : ∃ gM : mG, gM = (g.1, (fun i => g.2.1 (190 + i)), g.2.2) := ⟨_, rfl⟩
  have g1 : gM.1 = g.1 := by rw [hgM]
  have g3 : gM.2.2 = g.2.2 := by rw [hgM]
  have g2 : ∀ i, gM.2.1 i = g.2.1 (190 + i) := fun i => by rw [hgM]
  have hPM : va_P gM.1 vwCl (mws gM kM 17 iM0 zJ rM) H := by
    have hR : shR (rK9 190 rF10) (rK9 0 zR) := shR_9 (fun i k => by rw [(x3 (190 + i) k (by omega)).2.2]; rfl)
    have q := P_M (J' := zJ) g3 g2 (fun _ => rfl) hR hw.1
    have eI : shI I1 = zI := by
      funext i k
      exact (x3 (190 + i) k (by omega)).1
    rw [shI_9, eI, rM_eq] at q
    rw [g1]
    exact q
  have hKM : va_K gM.1 vwCl (mTys gM) s := by rw [hgM]; exact hK
  have hZM : mZ gM (up s.heap.size) s s.heap := by rw [hgM]; exact hZ
  have hl : lv_has ls 4 [(3, .int (nI 0)), (2, .ref (gM.2.1 0)), (1, .ref (g.2.1 0)), (0, .ref b)] := by
    rw [g2]
    exact hl
  exact l_loop ⟨B.1, hK, hKM, hg, fun i => by rw [g2, hg]; omega, hZ, hZM⟩ hr hlocks hX hbl hL ⟨Nat.le_of_ble_eq_true rfl, Nat.le_of_ble_eq_true rfl⟩ (L + 1) 0 I1 zJ rF10 iM0 zJ H locs ls (Nat.zero_le L) (by omega) ⟨hPX, hPM, hw.2.1⟩ (sim0 x1 x2) hl
