set_option maxHeartbeats 8000000 in
set_option maxRecDepth 100000 in
theorem l_loop {p : Program} {l : Launch} {e : Env} {s : State} {m : MethodId} {below : List Frame} {meth : Method} {c : Code} {b0 L cells slots : Nat} {xs : Nat → Int32} {gX gM : mG} (B : lFix p m c s b0 gX gM) (hr : meth.sig.returnType = ret) (hlk : meth.locks = false) (hX : va_X b0 L xs s s.heap) (hbl : b0 < s.heap.size) (hL : L ≤ 3072) (hcs : cells ≤ room_1.cells ∧ slots ≤ room_1.slots) : ∀ (N i : Nat) (I : mI) (J : mJ) (R : mR) (I' : mI) (J' : mJ) (H : Heap) (locs : List Loc) (ls : Array Slot), i ≤ L → L - i < N → lHp gX gM s I J R I' J' H locs → Sim I R I' → lv_has ls 4 [(3, .int (nI i)), (2, .ref (gM.2.1 0)), (1, .ref (gX.2.1 0)), (0, .ref b0)] → W p l e room_1 s m #[Value.ref b0] below meth c H locs cells slots (lw_Z below #[Value.ref b0] s) (F0 m 18 ls []) := by
  have hx := B.1.1
  have hb := B.1.2.1
  intro N
  induction N with
  | zero => intro i I J R I' J' H locs ls h1 h2; omega
  | succ N ih =>
    intro i I J R I' J' H locs ls h1 h2 hw hS hl
    refine lv_iload_n hx hb dL_law_18 rfl (lv_at hl 0 rfl) ?_
    refine lv_aload_n hx hb dL_law_19 rfl (lv_at hl 3 rfl) ?_
    refine va_slen hx hb hX hbl (A := up s.heap.size) (Nat.not_le.mpr hbl) hw.2.2 dL_law_20 ?_
    refine lv_bipush (v := (6 : Int32)) hx hb dL_law_21 (by decide) ?_
    refine lv_isub hx hb dL_law_23 ?_
    have ts : (nI L - nI 6).toInt = (L : Int) - 6 := pk_sub_toInt (by omega) (by decide)
    have ti : (nI i).toInt = (i : Int) := nI_toInt (by omega)
    refine lv_icmp_gt (tgt := 945) hx hb dL_law_24 (by decide) (fun q => ?_) (fun q => ?_)
    · refine lv_iconst (v := (1 : Int32)) hx hb dL_law_945 (by decide) ?_
      refine va_forget (fun q hq => hw.2.2.2.2 q hq) ?_
      refine W.widen hcs.1 hcs.2 ?_
      exact lw_ret hx hb hr hlk dL_law_946
    · have hi : i + 6 ≤ L := by
        have q : ¬ nI L - nI 6 < nI i := q
        rw [Int32.lt_iff_toInt_lt, ts, ti] at q
        omega
      have nx : lNx p l e s m below meth c cells slots (lw_Z below #[Value.ref b0] s) b0 gX gM ls := fun I J R I' J' H locs hw hS => by
        refine lv_iinc (k := 0) (v := nI (i + 6)) (lv' := [(3, .int (nI (i + 6))), (2, .ref (gM.2.1 0)), (1, .ref (gX.2.1 0)), (0, .ref b0)]) hx hb dL_law_939 hl rfl (nI_add i 6) (by decide) rfl (fun ls hl => ?_)
        refine lv_goto (tgt := 18) hx hb dL_law_942 (by decide) ?_
        exact ih (i + 6) I J R I' J' H locs ls hi (by omega) hw hS hl
      refine lv_aload_n hx hb dL_law_27 rfl (lv_at hl 3 rfl) ?_
      refine lv_iload_n hx hb dL_law_28 rfl (lv_at hl 0 rfl) ?_
      refine va_sld hx hb hX hbl (A := up s.heap.size) (Nat.not_le.mpr hbl) hw.2.2 (vp_in_iff.mpr ⟨by rw [ti]; omega, by rw [ti]; omega⟩) dL_law_29 ?_
      refine lv_bipush (v := (31 : Int32)) hx hb dL_law_30 (by decide) ?_
      refine lv_iand hx hb dL_law_32 ?_
      obtain ⟨k, hk, ek⟩ := pk_andE (xs (nI i).toNatClampNeg) (m := 31) 5 rfl
      rw [ek]
      rcases (show k = 0 ∨ k = 1 ∨ k = 2 ∨ k = 3 ∨ k = 4 ∨ k = 5 ∨ k = 6 ∨ k = 7 ∨ k = 8 ∨ k = 9 ∨ k = 10 ∨ k = 11 ∨ k = 12 ∨ k = 13 ∨ k = 14 ∨ k = 15 ∨ k = 16 ∨ k = 17 ∨ k = 18 ∨ k = 19 ∨ k = 20 ∨ k = 21 ∨ k = 22 ∨ 23 ≤ k by omega) with rfl | rfl | rfl | rfl | rfl | rfl | rfl | rfl | rfl | rfl | rfl | rfl | rfl | rfl | rfl | rfl | rfl | rfl | rfl | rfl | rfl | rfl | rfl | h23
      · refine lv_tableIn (off := 107) (tgt := 140) hx hb dL_law_33 (by decide) (by decide) rfl (by decide) ?_
        exact lk_file B hX hbl hL hi hcs hw hS hl nx
      · refine lv_tableIn (off := 130) (tgt := 163) hx hb dL_law_33 (by decide) (by decide) rfl (by decide) ?_
        exact lk_sex B hX hbl hL hi hcs hw hS hl nx
      · refine lv_tableIn (off := 173) (tgt := 206) hx hb dL_law_33 (by decide) (by decide) rfl (by decide) ?_
        exact lk_age B hX hbl hL hi hcs hw hS hl nx
      · refine lv_tableIn (off := 226) (tgt := 259) hx hb dL_law_33 (by decide) (by decide) rfl (by decide) ?_
        exact lk_tooth B hX hbl hL hi hcs hw hS hl nx
      · refine lv_tableIn (off := 279) (tgt := 312) hx hb dL_law_33 (by decide) (by decide) rfl (by decide) ?_
        exact lk_mark B hX hbl hL hi hcs hw hS hl nx
      · refine lv_tableIn (off := 332) (tgt := 365) hx hb dL_law_33 (by decide) (by decide) rfl (by decide) ?_
        exact lk_tissue B hX hbl hL hi hcs hw hS hl nx
      · refine lv_tableIn (off := 395) (tgt := 428) hx hb dL_law_33 (by decide) (by decide) rfl (by decide) ?_
        exact lk_pieces B hX hbl hL hi hcs hw hS hl nx
      · refine lv_tableIn (off := 428) (tgt := 461) hx hb dL_law_33 (by decide) (by decide) rfl (by decide) ?_
        exact lk_unfit B hX hbl hL hi hcs hw hS hl nx
      · refine lv_tableIn (off := 461) (tgt := 494) hx hb dL_law_33 (by decide) (by decide) rfl (by decide) ?_
        exact lk_join B hX hbl hL hi hcs hw hS hl nx
      · refine lv_tableIn (off := 494) (tgt := 527) hx hb dL_law_33 (by decide) (by decide) rfl (by decide) ?_
        exact lk_body B hX hbl hL hi hcs hw hS hl nx
      · refine lv_tableIn (off := 517) (tgt := 550) hx hb dL_law_33 (by decide) (by decide) rfl (by decide) ?_
        exact lk_told B hX hbl hL hi hcs hw hS hl nx
      · refine lv_tableIn (off := 550) (tgt := 583) hx hb dL_law_33 (by decide) (by decide) rfl (by decide) ?_
        exact lk_shut B hX hbl hL hi hcs hw hS hl nx
      · refine lv_tableIn (off := 583) (tgt := 616) hx hb dL_law_33 (by decide) (by decide) rfl (by decide) ?_
        exact lk_points B hX hbl hL hi hcs hw hS hl nx
      · refine lv_tableIn (off := 616) (tgt := 649) hx hb dL_law_33 (by decide) (by decide) rfl (by decide) ?_
        exact lk_pairing B hX hbl hL hi hcs hw hS hl nx
      · refine lv_tableIn (off := 639) (tgt := 672) hx hb dL_law_33 (by decide) (by decide) rfl (by decide) ?_
        exact lk_margin B hX hbl hL hi hcs hw hS hl nx
      · refine lv_tableIn (off := 662) (tgt := 695) hx hb dL_law_33 (by decide) (by decide) rfl (by decide) ?_
        exact lk_seal B hX hbl hL hi hcs hw hS hl nx
      · refine lv_tableIn (off := 705) (tgt := 738) hx hb dL_law_33 (by decide) (by decide) rfl (by decide) ?_
        exact lk_give B hX hbl hL hi hcs hw hS hl nx
      · refine lv_tableIn (off := 728) (tgt := 761) hx hb dL_law_33 (by decide) (by decide) rfl (by decide) ?_
        exact lk_named B hX hbl hL hi hcs hw hS hl nx
      · refine lv_tableIn (off := 761) (tgt := 794) hx hb dL_law_33 (by decide) (by decide) rfl (by decide) ?_
        exact lk_unname B hX hbl hL hi hcs hw hS hl nx
      · refine lv_tableIn (off := 784) (tgt := 817) hx hb dL_law_33 (by decide) (by decide) rfl (by decide) ?_
        exact lk_feed B hX hbl hL hi hcs hw hS hl nx
      · refine lv_tableIn (off := 847) (tgt := 880) hx hb dL_law_33 (by decide) (by decide) rfl (by decide) ?_
        exact lk_law B hX hbl hL hi hcs hw hS hl nx
      · refine lv_tableIn (off := 870) (tgt := 903) hx hb dL_law_33 (by decide) (by decide) rfl (by decide) ?_
        exact lk_fault B hX hbl hL hi hcs hw hS hl nx
      · refine lv_tableIn (off := 883) (tgt := 916) hx hb dL_law_33 (by decide) (by decide) rfl (by decide) ?_
        exact lk_count B hX hbl hL hi hcs hw hS hl nx
      · refine lv_tableOut (tgt := 939) hx hb dL_law_33 (Or.inr (by rw [nI_toInt (by omega)]; omega)) (by decide) ?_
        exact nx I J R I' J' H locs hw hS
