/-! au: the law from its entry (the statement is the skeleton's) -/
theorem dl_0 : decode code 0 = .ok (.new 7, 3) := by decide +kernel
theorem dl_3 : decode code 3 = .ok (.dup, 1) := by decide +kernel
theorem dl_4 : decode code 4 = .ok (.invokespecial 9, 3) := by decide +kernel
theorem dl_7 : decode code 7 = .ok (.astore_n 1, 1) := by decide +kernel
theorem dl_8 : decode code 8 = .ok (.new 10, 3) := by decide +kernel
theorem dl_11 : decode code 11 = .ok (.dup, 1) := by decide +kernel
theorem dl_12 : decode code 12 = .ok (.invokespecial 12, 3) := by decide +kernel
theorem dl_15 : decode code 15 = .ok (.astore_n 2, 1) := by decide +kernel
theorem lt_in : ((19, 7, 11) ∈ CLT ∧ (19, 10, 12) ∈ CLT) ∧ (19, 9, 11) ∈ CMT ∧ (19, 12, 12) ∈ CMT := by decide +kernel
theorem law_16 {XL : Nat} {XS : Int → Int} {c s : Nat} {σ : Mem} (hS : ∀ z : Int, in32 (XS z)) (hX : XL ≤ 3072) (hc : c ≤ 2000) (hs : s ≤ 20000) (h : TI 999 σ) : RnG (room_1, c, s) 315 16 [.inr (.inr (some (65, 0))), bo, mo, .inr (.inr none)] [] σ (YL XL XS) := by
  have := law_loop (d := 0) (XL := XL) (XS := XS) hS hX (by decide) 513 0 c s 999 σ (by decide) (by omega) (by omega) (by decide) h (by omega)
  rw [show (6 : Int) * ((0 : Nat) : Int) = 0 from rfl] at this
  refine l_LAW (d := 0) hk_LAW_16 (by decide) (by omega) (by omega) ?_
  simp only [wp_c, st_iload, st_lload, st_aload, st_istore, st_lstore, st_astore, st_iinc, st_sipush, st_jsr_w, st_goto, st_jsr, st_goto_w, st_if_icmp, st_ifCond, st_iadd, st_isub, st_imul, st_idiv, st_irem, st_iand, st_ior, st_ixor, st_ishl, st_ishr, st_iushr, st_ladd, st_lsub, st_lmul, st_ldiv, st_lrem, st_land, st_lor, st_lshl, st_lshr, st_i2l, st_l2i, st_i2b, st_i2s, st_i2c, st_lcmp, st_dup, st_pop, st_dup2, st_pop2, st_getfield, st_getstatic, st_checkcast, st_instanceof, st_putfield, st_putstatic, st_dstore, st_iaload, st_baload, st_laload, st_aaload, st_iastore, st_bastore, st_lastore, st_arraylength, st_dcmpg, st_dcmpl, st_fcmpg, st_fcmpl, st_monitorenter, st_tableswitch, st_multianewarray, st_invokeinterface, st_ireturn, st_lreturn, st_return_, st_ldc, st_ldc_w, st_ldc2_w, st_freturn, st_invokevirtual, st_anewarray0, st_anewarray1, st_anewarray2, st_anewarray3, st_anewarray4, st_anewarray5, st_lookupswitch, popI_c, popL_c, popR_c, popV_c, getI_c, getL_c, getR_c, lg_z, lg_s, ls1_z, ls1_o, ls1_s, ls2_z, ls2_o, ls2_s, noL_i, noL_l, noL_r, isL_i, isL_l, isL_r, tk_z, tk_s, psh_n, psh_s, ent_e, entL_n, entL_c, cc_eq, cc_ne, cc_lt, cc_ge, cc_gt, cc_le, swt_n, swt_c, lsw_n, lsw_c, mPs, NSTR_e, akds, alens, cnts, arfs, inb_e, lcm_lt, lcm_gt, lcm_ge, lcm_le, lcm_eq, lcm_a, lcm_b, Int.reduceToNat, Nat.reduceDiv, Nat.reduceMod, Nat.reduceMul, Nat.reduceAdd, Nat.reduceSub, Nat.reduceLT, Nat.reduceLeDiff, Nat.reduceEqDiff, Int.reduceNeg, Int.reduceAdd, Nat.one_mul, Nat.zero_mul, Nat.add_zero, Nat.zero_add, if_true, if_false, eq_self, true_and, and_true, true_or, or_true, false_or, or_false, List.length_cons, List.length_nil, List.cons_append, List.nil_append, List.replicate_zero, List.replicate_succ, Nat.lt_irrefl, reduceCtorEq, Bool.false_eq_true, in32, in64, Int.reduceLE, Int.reduceLT, Int.reduceEq, Int.reduceNe, not_true_eq_false, not_false_eq_true, true_implies, false_implies, implies_true, false_and, and_false, and_self, sA_goto_w, sA_dcmpg, sA_dcmpl, sA_multianewarray, sA_invokeinterface, sA_invokespecial, sA_new, sA_fload, sA_aconst_null, sA_areturn, sA_ireturn, sA_ifnonnull, sA_faload, sA_caload, pA_iload, pA_aload, pA_istore, pA_iinc, pA_sipush, pA_jsr_w, pA_goto, pA_jsr, pA_if_icmp, pA_ifCond, pA_iadd, pA_isub, pA_iand, pA_land, pA_lor, pA_lshl, pA_i2l, pA_lcmp, pA_getfield, pA_checkcast, pA_instanceof, pA_putfield, pA_putstatic, pA_arraylength, pA_tableswitch, pA_ldc, pA_ldc_w, wpA_c, TA_i, TA_r, isRV_r, nrl_n, nrl_i, nrl_l, nrl_0, nrl_r, rmC_c, rmC_s, mPA, objA, Nat.reduceBEq, Bool.or_false, Bool.or_self, Bool.not_false, Bool.true_and, Bool.false_and, decide_false, Nat.reduceLeDiff, bl_LAW_18, bl_LAW_228, bl_LAW_291, bl_LAW_314, bl_LAW_337, bl_LAW_370, bl_LAW_403, bl_LAW_436, bl_LAW_459, bl_LAW_477, bl_LAW_478, bl_LAW_499, bl_LAW_500, bl_LAW_508, bl_LAW_541, bl_LAW_574, bl_LAW_597, bl_LAW_620, bl_LAW_643, bl_LAW_666, bl_LAW_699, bl_LAW_722, bl_LAW_755, bl_LAW_778, bl_LAW_791, bl_LAW_824, bl_LAW_847, bl_LAW_880, bl_LAW_903, bl_LAW_936, bl_LAW_959, bl_LAW_972, bl_LAW_985, bl_LAW_998, bl_LAW_1021, bl_LAW_1034, bl_LAW_1047, bl_LAW_1070, bl_LAW_1103, bl_LAW_1116, bl_LAW_1139, bl_LAW_1172, bl_LAW_1195, bl_LAW_1239, bl_LAW_1272, bl_LAW_1315, bl_LAW_1389, bl_LAW_1412, bl_LAW_1435, bl_LAW_1458, bl_LAW_1481, r_LAW, h_LAW_16]
  (repeat' with_reducible first | apply And.intro | intro _)
  all_goals try omega
  all_goals exact this
set_option maxHeartbeats 4000000 in
/-- YOUR PART: from the entry, for every script of at most 3072 ints, the law comes to its end with true ('hflags': the launch's flags, for a law that throws: no stack traces) -/
theorem whole_start {p : Program} {e : Env} {s : State} {m : MethodId} {below : List Frame} {meth : Method} {c : Code} (l : Launch) (hflags : l.flags = flags0) {b L : Nat} {xs : Nat → Int32} (hL : L ≤ 3072) (C0 : lw_At p s m meth c b L xs) : W p l e room_1 s m #[Value.ref b] below meth c s.heap [] 0 0 (lw_Z below #[Value.ref b] s) (entryFrame m ([Value.ref b] : List Value).toArray 4) := by
  obtain ⟨hx, hb, hr, hml, hown, hts, hX, hbl, hlocks, hgv⟩ := id C0
  have htg : ∀ w ∈ tbg, w.before #[Value.ref b] s = true := fun w h => hts w (List.mem_filter.mp h).1
  obtain ⟨D, dA, hK⟩ := start_K hts
  obtain ⟨ρ, e65, hSS⟩ := start_SS hts hgv b
  have hST := start_ST hts hSS
  have hSC := start_SC hts
  have hA : ∀ q : Nat, s.heap.size ≤ q → (fun q : Nat => s.heap.size ≤ q) q := fun _ h => h
  have hown : s.vm.findClass (cnm 19) = some m.cls := hown
  have hl := lv_entry ([.ref b]) (n := 4) (Nat.le_of_ble_eq_true rfl)
  rw [lg_entry_eq]
  generalize (lg_sl ([.ref b]) ++ List.replicate (4 - (lg_sl ([.ref b])).length) Slot.unset).toArray = la at hl ⊢
  have hl : lv_has la 4 [(0, .ref b)] := hl
  have hS : va_S (fun q : Nat => s.heap.size ≤ q) s.heap s.heap [] := va_S.rf
  have hP : va_P D vwCl (wrl dA (fun _ => 0) []) s.heap := fun k q h => by cases h
  have hD : va_D (fun q : Nat => s.heap.size ≤ q) (wrl dA (fun _ => 0) []) := ⟨fun i j p q h => (by cases h), fun k q h => (by cases h)⟩
  refine L_new (k := 11) hx hb htg hown hK (by decide) lt_in.1.1 rfl hP hD hS hA (Nat.le_of_ble_eq_true rfl) (Nat.le_of_ble_eq_true rfl) dl_0 (fun q1 H1 hP1 hD1 hS1 => ?_)
  refine lv_dup hx hb dl_3 rfl ?_
  have hA1 : ∀ q, va_A (wrl dA (upA (fun _ => 0) 0 q1) [.inl (11, dfC 11)]) H1.size q → s.heap.size ≤ q := by
    rintro q (⟨k, x, h⟩ | h)
    · exact hD1.2 k _ h
    · exact Nat.le_trans hS1.1 h
  have q1e : upA (fun _ => 0) 0 q1 0 = q1 := if_pos rfl
  have hM1 := C1_MC l D dA (upA (fun _ => 0) 0 q1) H1.size
  have e1v : ([.inr (.inr (some (70, 0)))] : List AV).map (cv (rA (upA (fun _ => 0) 0 q1))) = [Value.ref q1] := by
    show [Value.ref (upA (fun _ => 0) 0 q1 0)] = _
    rw [q1e]
  rw [e1v] at hM1
  have run1 := L_run (R := room_1) (k := 11) (la := la) (rest := [Value.ref q1]) (locs := ([] : List Loc)) (cells := 1) (slots := 14) (below := below) (e := e) (meth := meth) hx hb hml htg hown (by decide) rfl lt_in.2.1 hM1 ⟨fun a U g mk w => by
    obtain ⟨w0, w1, wP, wK, wD, wT⟩ := w
    exact ⟨w0, w1, wP, va_K.moved (u := U) (U := U.calling g mk a) (Vm.Alike.refl U.vm) wK, wD, wT.same rfl⟩, fun U hU hW => ⟨rfl, by rw [hU], by rw [hU]; exact hP1, va_K.moved hW.alike hK, hD1.weaken (fun _ _ _ _ => trivial), hSC.go hW⟩⟩ (Nat.le_of_ble_eq_true rfl |> fun h => ⟨h, Nat.le_of_ble_eq_true rfl⟩) hl.1 (Nat.le_of_ble_eq_true rfl) dl_4 ⟨Nat.le_of_ble_eq_true rfl, Nat.le_of_ble_eq_true rfl⟩
  intro T hT X
  obtain ⟨v, st₀, t, T1, L1, h0, X1, hL1, e1, e2, ⟨⟨α, ha, hv, hP2, hK2, hD2⟩, hz1, hk1⟩, stp1⟩ := run1 T hT X
  cases hv
  rw [h0] at hz1 hk1
  rw [← e1] at hP2 hz1 hk1
  have a0 : α 0 = q1 := (ha 0 (by show 0 < 1; decide)).trans q1e
  have hD2 : va_D (fun q : Nat => s.heap.size ≤ q) (wrl dA α C1) := hD2.weaken (fun _ _ _ h => hA1 _ h)
  have hS2 : va_S (fun q : Nat => s.heap.size ≤ q) s.heap T1.heap ([] ++ L1) := ⟨Nat.le_trans hS1.1 hz1, fun q g1 g2 => by rw [hk1 q (Nat.lt_of_lt_of_le g1 hS1.1) (fun z => g2 (hA1 q z))]; exact hS1.2.1 q g1 g2, fun q hq => hA1 _ (hL1 q (by simpa using hq))⟩
  have G1 : W p l e room_1 s m #[Value.ref b] below meth c T1.heap ([] ++ L1) 142 3865 (lw_Z below #[Value.ref b] s) (F0 m 7 la [.ref q1]) := by
    refine lv_astore_n (lv' := [(1, .ref q1), (0, .ref b)]) hx hb dl_7 rfl hl (by decide) rfl (fun la2 hl2 => ?_)
    refine L_new (k := 12) hx hb htg hown hK (by decide) lt_in.1.2 C1_wf hP2 hD2 hS2 hA (Nat.le_of_ble_eq_true rfl) (Nat.le_of_ble_eq_true rfl) dl_8 (fun q2 H2 hP3 hD3 hS3 => ?_)
    refine lv_dup hx hb dl_11 rfl ?_
    rw [B12_len.1.2] at hP3 hD3
    have hA2 : ∀ q, va_A (wrl dA (upA α 142 q2) B12) H2.size q → s.heap.size ≤ q := by
      rintro q (⟨k, x, h⟩ | h)
      · exact hD3.2 k _ h
      · exact Nat.le_trans hS3.1 h
    have q2e : upA α 142 q2 142 = q2 := if_pos rfl
    have q20 : upA α 142 q2 0 = q1 := (if_neg (by decide)).trans a0
    have hM2 := M12 l D dA (upA α 142 q2) ρ H2.size
    have e2v : a12.map (cv (rA (upA α 142 q2))) = [Value.ref q2] := by
      show [Value.ref (upA α 142 q2 142)] = _
      rw [q2e]
    rw [e2v] at hM2
    have run2 := L_run (R := room_1) (k := 12) (la := la2) (rest := [Value.ref q2]) (locs := ([] ++ L1 : List Loc)) (cells := 143) (slots := 3898) (below := below) (e := e) (meth := meth) hx hb hml htg hown (by decide) rfl lt_in.2.2 hM2 ⟨fun a U g mk w => by
      obtain ⟨w0, w1, wP, wK, wD, wS, wT⟩ := w
      exact ⟨w0, w1, wP, va_K.moved (u := U) (U := U.calling g mk a) (Vm.Alike.refl U.vm) wK, wD, wS.same rfl, wT.same rfl rfl⟩, fun U hU hW => ⟨rfl, by rw [hU], by rw [hU]; exact hP3, va_K.moved hW.alike hK, hD3.weaken (fun _ _ _ _ => trivial), hSC.go hW, hST.go hW (fun q g1 g2 => by rw [hU]; exact hS3.2.1 q g1 g2) hA2⟩⟩ (Nat.le_of_ble_eq_true rfl |> fun h => ⟨h, Nat.le_of_ble_eq_true rfl⟩) hl2.1 (Nat.le_of_ble_eq_true rfl) dl_12 ⟨Nat.le_of_ble_eq_true rfl, Nat.le_of_ble_eq_true rfl⟩
    intro T hT X
    obtain ⟨v, st₀, t, T2, L2, h0, X2, hL2, e1, e2, ⟨⟨ρ', σ', hρ, hb1, hb2, hTI, hv, hP4, hK4, hD4⟩, hz2, hk2⟩, stp2⟩ := run2 T hT X
    cases hv
    rw [h0] at hz2 hk2
    rw [← e1] at hP4 hz2 hk2
    have hD4 : va_D (fun q : Nat => s.heap.size ≤ q) (wld dA ρ' σ') := hD4.weaken (fun _ _ _ h => hA2 _ h)
    have hS4 : va_S (fun q : Nat => s.heap.size ≤ q) s.heap T2.heap (([] ++ L1) ++ L2) := ⟨Nat.le_trans hS3.1 hz2, fun q g1 g2 => by rw [hk2 q (Nat.lt_of_lt_of_le g1 hS3.1) (fun z => g2 (hA2 q z))]; exact hS3.2.1 q g1 g2, fun q hq => by
      rcases List.mem_append.mp hq with h | h
      · exact hS3.2.2 q h
      · exact hA2 _ (hL2 q h)⟩
    have G2 : W p l e room_1 s m #[Value.ref b] below meth c T2.heap (([] ++ L1) ++ L2) 158 12373 (lw_Z below #[Value.ref b] s) (F0 m 15 la2 [.ref q2]) := by
      refine lv_astore_n (lv' := [(2, .ref q2), (1, .ref q1), (0, .ref b)]) hx hb dl_15 rfl hl2 (by decide) rfl (fun la3 hl3 => ?_)
      have r65 : ρ' 65 0 = b := (hρ 65 0 (by decide)).trans e65
      have r11 : ρ' 11 0 = q1 := hb1.trans q20
      have r12 : ρ' 12 0 = q2 := hb2.trans q2e
      have hS32 : ∀ z : Int, in32 ((xs z.toNat).toInt) := fun z => ⟨by have := Int32.le_toInt (xs z.toNat); omega, by have := Int32.toInt_lt (xs z.toNat); omega⟩
      have G := law_16 (XL := L) (XS := fun z => (xs z.toNat).toInt) (c := 158) (s := 12373) hS32 hL (by decide) (by decide) hTI
      have hC : Cx 315 p s m #[Value.ref b] meth c D dA ρ' (fun q : Nat => s.heap.size ≤ q) := ⟨hx, hb.trans m_315.1.symm, hr.trans m_315.2.1.symm, hml.trans m_315.2.2.1.symm, htg, hown, hlocks, hK, hA, ST_hi hρ hST⟩
      have hSX : SX L (fun z => (xs z.toNat).toInt) ρ' s (fun q : Nat => s.heap.size ≤ q) := by
        unfold SX
        rw [r65]
        have ef : (fun j : Nat => Int32.ofInt ((xs (j : Int).toNat).toInt)) = xs := by
          funext j
          rw [Int.toNat_natCast, Int32.ofInt_toInt]
        refine ⟨?_, hbl, Nat.not_le.mpr hbl⟩
        show va_X b L (fun j : Nat => Int32.ofInt ((xs (j : Int).toNat).toInt)) s s.heap
        rw [ef]
        exact hX
      have hl4 : lv_has la3 (mL 315) (lvp ρ' 0 [.inr (.inr (some (65, 0))), bo, mo, .inr (.inr none)]) := by
        refine lv_mono hl3 ?_
        intro q hq
        have hq : q ∈ [(0, Value.ref (ρ' 65 0)), (1, Value.ref (ρ' 11 0)), (2, Value.ref (ρ' 12 0))] := hq
        rw [r65, r11, r12] at hq
        simp only [List.mem_cons, List.not_mem_nil, or_false] at hq ⊢
        rcases hq with h | h | h
        · exact Or.inr (Or.inr h)
        · exact Or.inr (Or.inl h)
        · exact Or.inl h
      intro T hT X
      obtain ⟨t, k1, k2⟩ := G p l e s m #[Value.ref b] below meth c D dA ρ' _ T2.heap _ la3 hC hl4 hP4 hD4 hS4 T hT X
      exact ⟨t, k1, k2 hSC hSX (fun _ h => h) (by rw [r65])⟩
    obtain ⟨t2, k1, k2⟩ := G2 T2 rfl X2
    exact ⟨t2, stp2 t2 k1, k2⟩
  obtain ⟨t2, k1, k2⟩ := G1 T1 rfl X1
  exact ⟨t2, stp1 t2 k1, k2⟩
