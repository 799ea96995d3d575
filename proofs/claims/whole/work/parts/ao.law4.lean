/-! ao: the law's loop (written by wip/whole/lawgen.py) -/
section LAWL
variable {XL : Nat} {XS : Int → Int} {d : Nat}
theorem iand63 (x : Int) : 0 ≤ iand x 63 ∧ iand x 63 < 64 := by
  unfold iand
  have e : (Int32.ofInt x &&& Int32.ofInt 63).toBitVec.toNat ≤ 63 := by
    rw [Int32.toBitVec_and, BitVec.toNat_and]
    exact Nat.le_trans Nat.and_le_right (by decide)
  generalize Int32.ofInt x &&& Int32.ofInt 63 = w at e ⊢
  have h : w.toInt = w.toBitVec.toInt := rfl
  rw [h, BitVec.toInt_eq_toNat_cond]
  split <;> omega
theorem TI_up {M M' : Int} {σ : Mem} (h : TI M σ) (hM : M ≤ M') : TI M' σ := by
  obtain ⟨⟨v1, v2, v3, r1, r2, r3, r4⟩, im, h3⟩ := h
  exact ⟨⟨v1, v2, v3, r1, r2, by omega, fun k hk => ⟨(r4 k hk).1, by have := (r4 k hk).2; omega⟩⟩, IMG_x im hM rfl rfl (fun _ _ => rfl) pls.rf ⟨rfl, rfl, rfl, rfl, rfl⟩ ⟨rfl, rfl, rfl, rfl, rfl⟩, h3⟩
set_option maxRecDepth 8000 in
theorem law_loop (hS : ∀ z : Int, in32 (XS z)) (hX : XL ≤ 3072) (hd : d ≤ 1000) : ∀ (n : Nat) (k : Nat) (c s : Nat) (M : Int) (σ : Mem), k + n = 513 → (c : Int) ≤ 2000 + 906 * k → (s : Int) ≤ 20000 + 960 * k → M = 999 + 99 * (k : Int) → TI M σ → 6 * (k : Int) ≤ XL → RnG (room_1, c, s) 315 18 [.inr (.inr (some (65, 0))), bo, mo, .inl (6 * (k : Int))] [] σ (YL XL XS) := by
  have hy : sxY XL XS (YL XL XS) := YL_sx (by omega)
  intro n
  induction n with
  | zero =>
    intro k c s M σ h1 h2 h3 h4 h5 h6
    omega
  | succ n ih =>
    intro k c s M σ h1 h2 h3 h4 h5 h6
    have E : RnG (room_1, c, s) 315 1487 [.inr (.inr (some (65, 0))), bo, mo, .inl (6 * (k : Int))] [] σ (YL XL XS) := by
      refine l_LAW (d := d) hk_LAW_1487 (by omega) (by omega) (by omega) ?_
      simp only [wp_c, st_iload, st_lload, st_aload, st_istore, st_lstore, st_astore, st_iinc, st_sipush, st_jsr_w, st_goto, st_jsr, st_goto_w, st_if_icmp, st_ifCond, st_iadd, st_isub, st_imul, st_idiv, st_irem, st_iand, st_ior, st_ixor, st_ishl, st_ishr, st_iushr, st_ladd, st_lsub, st_lmul, st_ldiv, st_lrem, st_land, st_lor, st_lshl, st_lshr, st_i2l, st_l2i, st_i2b, st_i2s, st_i2c, st_lcmp, st_dup, st_pop, st_dup2, st_pop2, st_getfield, st_getstatic, st_checkcast, st_instanceof, st_putfield, st_putstatic, st_dstore, st_iaload, st_baload, st_laload, st_aaload, st_iastore, st_bastore, st_lastore, st_arraylength, st_dcmpg, st_dcmpl, st_fcmpg, st_fcmpl, st_monitorenter, st_tableswitch, st_multianewarray, st_invokeinterface, st_ireturn, st_lreturn, st_return_, st_ldc, st_ldc_w, st_ldc2_w, st_freturn, st_invokevirtual, st_anewarray0, st_anewarray1, st_anewarray2, st_anewarray3, st_anewarray4, st_anewarray5, st_lookupswitch, popI_c, popL_c, popR_c, popV_c, getI_c, getL_c, getR_c, lg_z, lg_s, ls1_z, ls1_o, ls1_s, ls2_z, ls2_o, ls2_s, noL_i, noL_l, noL_r, isL_i, isL_l, isL_r, tk_z, tk_s, psh_n, psh_s, ent_e, entL_n, entL_c, cc_eq, cc_ne, cc_lt, cc_ge, cc_gt, cc_le, swt_n, swt_c, lsw_n, lsw_c, mPs, NSTR_e, akds, alens, cnts, arfs, inb_e, lcm_lt, lcm_gt, lcm_ge, lcm_le, lcm_eq, lcm_a, lcm_b, Int.reduceToNat, Nat.reduceDiv, Nat.reduceMod, Nat.reduceMul, Nat.reduceAdd, Nat.reduceSub, Nat.reduceLT, Nat.reduceLeDiff, Nat.reduceEqDiff, Int.reduceNeg, Int.reduceAdd, Nat.one_mul, Nat.zero_mul, Nat.add_zero, Nat.zero_add, if_true, if_false, eq_self, true_and, and_true, true_or, or_true, false_or, or_false, List.length_cons, List.length_nil, List.cons_append, List.nil_append, List.replicate_zero, List.replicate_succ, Nat.lt_irrefl, reduceCtorEq, Bool.false_eq_true, in32, in64, Int.reduceLE, Int.reduceLT, Int.reduceEq, Int.reduceNe, not_true_eq_false, not_false_eq_true, true_implies, false_implies, implies_true, false_and, and_false, and_self, sA_goto_w, sA_dcmpg, sA_dcmpl, sA_multianewarray, sA_invokeinterface, sA_invokespecial, sA_new, sA_fload, sA_aconst_null, sA_areturn, sA_ireturn, sA_ifnonnull, sA_faload, sA_caload, pA_iload, pA_aload, pA_istore, pA_iinc, pA_sipush, pA_jsr_w, pA_goto, pA_jsr, pA_if_icmp, pA_ifCond, pA_iadd, pA_isub, pA_iand, pA_land, pA_lor, pA_lshl, pA_i2l, pA_lcmp, pA_getfield, pA_checkcast, pA_instanceof, pA_putfield, pA_putstatic, pA_arraylength, pA_tableswitch, pA_ldc, pA_ldc_w, wpA_c, TA_i, TA_r, isRV_r, nrl_n, nrl_i, nrl_l, nrl_0, nrl_r, rmC_c, rmC_s, mPA, objA, Nat.reduceBEq, Bool.or_false, Bool.or_self, Bool.not_false, Bool.true_and, Bool.false_and, decide_false, Nat.reduceLeDiff, bl_LAW_18, bl_LAW_228, bl_LAW_291, bl_LAW_314, bl_LAW_337, bl_LAW_370, bl_LAW_403, bl_LAW_436, bl_LAW_459, bl_LAW_477, bl_LAW_478, bl_LAW_499, bl_LAW_500, bl_LAW_508, bl_LAW_541, bl_LAW_574, bl_LAW_597, bl_LAW_620, bl_LAW_643, bl_LAW_666, bl_LAW_699, bl_LAW_722, bl_LAW_755, bl_LAW_778, bl_LAW_791, bl_LAW_824, bl_LAW_847, bl_LAW_880, bl_LAW_903, bl_LAW_936, bl_LAW_959, bl_LAW_972, bl_LAW_985, bl_LAW_998, bl_LAW_1021, bl_LAW_1034, bl_LAW_1047, bl_LAW_1070, bl_LAW_1103, bl_LAW_1116, bl_LAW_1139, bl_LAW_1172, bl_LAW_1195, bl_LAW_1239, bl_LAW_1272, bl_LAW_1315, bl_LAW_1389, bl_LAW_1412, bl_LAW_1435, bl_LAW_1458, bl_LAW_1481, r_LAW, h_LAW_1487, TL]
      (repeat' with_reducible first | apply And.intro | intro _)
      all_goals omega
    generalize hi : 6 * (k : Int) = i at *
    have b0 := hS i
    have a63 := iand63 (XS i)
    unfold in32 at b0
    by_cases c6 : (XL : Int) - 6 < i
    · refine l_LAW (d := d) hk_LAW_18 (by omega) (by omega) (by omega) ?_
      simp only [wp_c, st_iload, st_lload, st_aload, st_istore, st_lstore, st_astore, st_iinc, st_sipush, st_jsr_w, st_goto, st_jsr, st_goto_w, st_if_icmp, st_ifCond, st_iadd, st_isub, st_imul, st_idiv, st_irem, st_iand, st_ior, st_ixor, st_ishl, st_ishr, st_iushr, st_ladd, st_lsub, st_lmul, st_ldiv, st_lrem, st_land, st_lor, st_lshl, st_lshr, st_i2l, st_l2i, st_i2b, st_i2s, st_i2c, st_lcmp, st_dup, st_pop, st_dup2, st_pop2, st_getfield, st_getstatic, st_checkcast, st_instanceof, st_putfield, st_putstatic, st_dstore, st_iaload, st_baload, st_laload, st_aaload, st_iastore, st_bastore, st_lastore, st_arraylength, st_dcmpg, st_dcmpl, st_fcmpg, st_fcmpl, st_monitorenter, st_tableswitch, st_multianewarray, st_invokeinterface, st_ireturn, st_lreturn, st_return_, st_ldc, st_ldc_w, st_ldc2_w, st_freturn, st_invokevirtual, st_anewarray0, st_anewarray1, st_anewarray2, st_anewarray3, st_anewarray4, st_anewarray5, st_lookupswitch, popI_c, popL_c, popR_c, popV_c, getI_c, getL_c, getR_c, lg_z, lg_s, ls1_z, ls1_o, ls1_s, ls2_z, ls2_o, ls2_s, noL_i, noL_l, noL_r, isL_i, isL_l, isL_r, tk_z, tk_s, psh_n, psh_s, ent_e, entL_n, entL_c, cc_eq, cc_ne, cc_lt, cc_ge, cc_gt, cc_le, swt_n, swt_c, lsw_n, lsw_c, mPs, NSTR_e, akds, alens, cnts, arfs, inb_e, lcm_lt, lcm_gt, lcm_ge, lcm_le, lcm_eq, lcm_a, lcm_b, Int.reduceToNat, Nat.reduceDiv, Nat.reduceMod, Nat.reduceMul, Nat.reduceAdd, Nat.reduceSub, Nat.reduceLT, Nat.reduceLeDiff, Nat.reduceEqDiff, Int.reduceNeg, Int.reduceAdd, Nat.one_mul, Nat.zero_mul, Nat.add_zero, Nat.zero_add, if_true, if_false, eq_self, true_and, and_true, true_or, or_true, false_or, or_false, List.length_cons, List.length_nil, List.cons_append, List.nil_append, List.replicate_zero, List.replicate_succ, Nat.lt_irrefl, reduceCtorEq, Bool.false_eq_true, in32, in64, Int.reduceLE, Int.reduceLT, Int.reduceEq, Int.reduceNe, not_true_eq_false, not_false_eq_true, true_implies, false_implies, implies_true, false_and, and_false, and_self, sA_goto_w, sA_dcmpg, sA_dcmpl, sA_multianewarray, sA_invokeinterface, sA_invokespecial, sA_new, sA_fload, sA_aconst_null, sA_areturn, sA_ireturn, sA_ifnonnull, sA_faload, sA_caload, pA_iload, pA_aload, pA_istore, pA_iinc, pA_sipush, pA_jsr_w, pA_goto, pA_jsr, pA_if_icmp, pA_ifCond, pA_iadd, pA_isub, pA_iand, pA_land, pA_lor, pA_lshl, pA_i2l, pA_lcmp, pA_getfield, pA_checkcast, pA_instanceof, pA_putfield, pA_putstatic, pA_arraylength, pA_tableswitch, pA_ldc, pA_ldc_w, wpA_c, TA_i, TA_r, isRV_r, nrl_n, nrl_i, nrl_l, nrl_0, nrl_r, rmC_c, rmC_s, mPA, objA, Nat.reduceBEq, Bool.or_false, Bool.or_self, Bool.not_false, Bool.true_and, Bool.false_and, decide_false, Nat.reduceLeDiff, bl_LAW_18, bl_LAW_228, bl_LAW_291, bl_LAW_314, bl_LAW_337, bl_LAW_370, bl_LAW_403, bl_LAW_436, bl_LAW_459, bl_LAW_477, bl_LAW_478, bl_LAW_499, bl_LAW_500, bl_LAW_508, bl_LAW_541, bl_LAW_574, bl_LAW_597, bl_LAW_620, bl_LAW_643, bl_LAW_666, bl_LAW_699, bl_LAW_722, bl_LAW_755, bl_LAW_778, bl_LAW_791, bl_LAW_824, bl_LAW_847, bl_LAW_880, bl_LAW_903, bl_LAW_936, bl_LAW_959, bl_LAW_972, bl_LAW_985, bl_LAW_998, bl_LAW_1021, bl_LAW_1034, bl_LAW_1047, bl_LAW_1070, bl_LAW_1103, bl_LAW_1116, bl_LAW_1139, bl_LAW_1172, bl_LAW_1195, bl_LAW_1239, bl_LAW_1272, bl_LAW_1315, bl_LAW_1389, bl_LAW_1412, bl_LAW_1435, bl_LAW_1458, bl_LAW_1481, r_LAW, h_LAW_18]
      (repeat' with_reducible first | apply And.intro | intro _)
      all_goals first | omega | exact hy | exact E
    have N : ∀ (σ2 : Mem) (c2 s2 : Nat), c2 ≤ c + 906 → s2 ≤ s + 960 → TI (M + 99) σ2 → RnG (room_1, c2, s2) 315 1481 [.inr (.inr (some (65, 0))), bo, mo, .inl i] [] σ2 (YL XL XS) := by
      intro σ2 c2 s2 g1 g2 g3
      have := ih (k + 1) c2 s2 (M + 99) σ2 (by omega) (by omega) (by omega) (by omega) g3 (by omega)
      rw [show 6 * ((k + 1 : Nat) : Int) = i + 6 by omega] at this
      refine l_LAW (d := d) hk_LAW_1481 (by omega) (by omega) (by omega) ?_
      simp only [wp_c, st_iload, st_lload, st_aload, st_istore, st_lstore, st_astore, st_iinc, st_sipush, st_jsr_w, st_goto, st_jsr, st_goto_w, st_if_icmp, st_ifCond, st_iadd, st_isub, st_imul, st_idiv, st_irem, st_iand, st_ior, st_ixor, st_ishl, st_ishr, st_iushr, st_ladd, st_lsub, st_lmul, st_ldiv, st_lrem, st_land, st_lor, st_lshl, st_lshr, st_i2l, st_l2i, st_i2b, st_i2s, st_i2c, st_lcmp, st_dup, st_pop, st_dup2, st_pop2, st_getfield, st_getstatic, st_checkcast, st_instanceof, st_putfield, st_putstatic, st_dstore, st_iaload, st_baload, st_laload, st_aaload, st_iastore, st_bastore, st_lastore, st_arraylength, st_dcmpg, st_dcmpl, st_fcmpg, st_fcmpl, st_monitorenter, st_tableswitch, st_multianewarray, st_invokeinterface, st_ireturn, st_lreturn, st_return_, st_ldc, st_ldc_w, st_ldc2_w, st_freturn, st_invokevirtual, st_anewarray0, st_anewarray1, st_anewarray2, st_anewarray3, st_anewarray4, st_anewarray5, st_lookupswitch, popI_c, popL_c, popR_c, popV_c, getI_c, getL_c, getR_c, lg_z, lg_s, ls1_z, ls1_o, ls1_s, ls2_z, ls2_o, ls2_s, noL_i, noL_l, noL_r, isL_i, isL_l, isL_r, tk_z, tk_s, psh_n, psh_s, ent_e, entL_n, entL_c, cc_eq, cc_ne, cc_lt, cc_ge, cc_gt, cc_le, swt_n, swt_c, lsw_n, lsw_c, mPs, NSTR_e, akds, alens, cnts, arfs, inb_e, lcm_lt, lcm_gt, lcm_ge, lcm_le, lcm_eq, lcm_a, lcm_b, Int.reduceToNat, Nat.reduceDiv, Nat.reduceMod, Nat.reduceMul, Nat.reduceAdd, Nat.reduceSub, Nat.reduceLT, Nat.reduceLeDiff, Nat.reduceEqDiff, Int.reduceNeg, Int.reduceAdd, Nat.one_mul, Nat.zero_mul, Nat.add_zero, Nat.zero_add, if_true, if_false, eq_self, true_and, and_true, true_or, or_true, false_or, or_false, List.length_cons, List.length_nil, List.cons_append, List.nil_append, List.replicate_zero, List.replicate_succ, Nat.lt_irrefl, reduceCtorEq, Bool.false_eq_true, in32, in64, Int.reduceLE, Int.reduceLT, Int.reduceEq, Int.reduceNe, not_true_eq_false, not_false_eq_true, true_implies, false_implies, implies_true, false_and, and_false, and_self, sA_goto_w, sA_dcmpg, sA_dcmpl, sA_multianewarray, sA_invokeinterface, sA_invokespecial, sA_new, sA_fload, sA_aconst_null, sA_areturn, sA_ireturn, sA_ifnonnull, sA_faload, sA_caload, pA_iload, pA_aload, pA_istore, pA_iinc, pA_sipush, pA_jsr_w, pA_goto, pA_jsr, pA_if_icmp, pA_ifCond, pA_iadd, pA_isub, pA_iand, pA_land, pA_lor, pA_lshl, pA_i2l, pA_lcmp, pA_getfield, pA_checkcast, pA_instanceof, pA_putfield, pA_putstatic, pA_arraylength, pA_tableswitch, pA_ldc, pA_ldc_w, wpA_c, TA_i, TA_r, isRV_r, nrl_n, nrl_i, nrl_l, nrl_0, nrl_r, rmC_c, rmC_s, mPA, objA, Nat.reduceBEq, Bool.or_false, Bool.or_self, Bool.not_false, Bool.true_and, Bool.false_and, decide_false, Nat.reduceLeDiff, bl_LAW_18, bl_LAW_228, bl_LAW_291, bl_LAW_314, bl_LAW_337, bl_LAW_370, bl_LAW_403, bl_LAW_436, bl_LAW_459, bl_LAW_477, bl_LAW_478, bl_LAW_499, bl_LAW_500, bl_LAW_508, bl_LAW_541, bl_LAW_574, bl_LAW_597, bl_LAW_620, bl_LAW_643, bl_LAW_666, bl_LAW_699, bl_LAW_722, bl_LAW_755, bl_LAW_778, bl_LAW_791, bl_LAW_824, bl_LAW_847, bl_LAW_880, bl_LAW_903, bl_LAW_936, bl_LAW_959, bl_LAW_972, bl_LAW_985, bl_LAW_998, bl_LAW_1021, bl_LAW_1034, bl_LAW_1047, bl_LAW_1070, bl_LAW_1103, bl_LAW_1116, bl_LAW_1139, bl_LAW_1172, bl_LAW_1195, bl_LAW_1239, bl_LAW_1272, bl_LAW_1315, bl_LAW_1389, bl_LAW_1412, bl_LAW_1435, bl_LAW_1458, bl_LAW_1481, r_LAW, h_LAW_1481]
      (repeat' with_reducible first | apply And.intro | intro _)
      all_goals first | omega | exact this
    have h5' : TI (M + 99) σ := TI_up h5 (by omega)
    have hi5 : 0 ≤ i ∧ i + 5 < (XL : Int) := by omega
    have h9 : 999 ≤ M ∧ M + 99 < 1000000000 := by omega
    have hX9 : XL < 2147483648 := by omega
    refine l_LAW (d := d) hk_LAW_18 (by omega) (by omega) (by omega) ?_
    simp only [wp_c, st_iload, st_lload, st_aload, st_istore, st_lstore, st_astore, st_iinc, st_sipush, st_jsr_w, st_goto, st_jsr, st_goto_w, st_if_icmp, st_ifCond, st_iadd, st_isub, st_imul, st_idiv, st_irem, st_iand, st_ior, st_ixor, st_ishl, st_ishr, st_iushr, st_ladd, st_lsub, st_lmul, st_ldiv, st_lrem, st_land, st_lor, st_lshl, st_lshr, st_i2l, st_l2i, st_i2b, st_i2s, st_i2c, st_lcmp, st_dup, st_pop, st_dup2, st_pop2, st_getfield, st_getstatic, st_checkcast, st_instanceof, st_putfield, st_putstatic, st_dstore, st_iaload, st_baload, st_laload, st_aaload, st_iastore, st_bastore, st_lastore, st_arraylength, st_dcmpg, st_dcmpl, st_fcmpg, st_fcmpl, st_monitorenter, st_tableswitch, st_multianewarray, st_invokeinterface, st_ireturn, st_lreturn, st_return_, st_ldc, st_ldc_w, st_ldc2_w, st_freturn, st_invokevirtual, st_anewarray0, st_anewarray1, st_anewarray2, st_anewarray3, st_anewarray4, st_anewarray5, st_lookupswitch, popI_c, popL_c, popR_c, popV_c, getI_c, getL_c, getR_c, lg_z, lg_s, ls1_z, ls1_o, ls1_s, ls2_z, ls2_o, ls2_s, noL_i, noL_l, noL_r, isL_i, isL_l, isL_r, tk_z, tk_s, psh_n, psh_s, ent_e, entL_n, entL_c, cc_eq, cc_ne, cc_lt, cc_ge, cc_gt, cc_le, swt_n, swt_c, lsw_n, lsw_c, mPs, NSTR_e, akds, alens, cnts, arfs, inb_e, lcm_lt, lcm_gt, lcm_ge, lcm_le, lcm_eq, lcm_a, lcm_b, Int.reduceToNat, Nat.reduceDiv, Nat.reduceMod, Nat.reduceMul, Nat.reduceAdd, Nat.reduceSub, Nat.reduceLT, Nat.reduceLeDiff, Nat.reduceEqDiff, Int.reduceNeg, Int.reduceAdd, Nat.one_mul, Nat.zero_mul, Nat.add_zero, Nat.zero_add, if_true, if_false, eq_self, true_and, and_true, true_or, or_true, false_or, or_false, List.length_cons, List.length_nil, List.cons_append, List.nil_append, List.replicate_zero, List.replicate_succ, Nat.lt_irrefl, reduceCtorEq, Bool.false_eq_true, in32, in64, Int.reduceLE, Int.reduceLT, Int.reduceEq, Int.reduceNe, not_true_eq_false, not_false_eq_true, true_implies, false_implies, implies_true, false_and, and_false, and_self, sA_goto_w, sA_dcmpg, sA_dcmpl, sA_multianewarray, sA_invokeinterface, sA_invokespecial, sA_new, sA_fload, sA_aconst_null, sA_areturn, sA_ireturn, sA_ifnonnull, sA_faload, sA_caload, pA_iload, pA_aload, pA_istore, pA_iinc, pA_sipush, pA_jsr_w, pA_goto, pA_jsr, pA_if_icmp, pA_ifCond, pA_iadd, pA_isub, pA_iand, pA_land, pA_lor, pA_lshl, pA_i2l, pA_lcmp, pA_getfield, pA_checkcast, pA_instanceof, pA_putfield, pA_putstatic, pA_arraylength, pA_tableswitch, pA_ldc, pA_ldc_w, wpA_c, TA_i, TA_r, isRV_r, nrl_n, nrl_i, nrl_l, nrl_0, nrl_r, rmC_c, rmC_s, mPA, objA, Nat.reduceBEq, Bool.or_false, Bool.or_self, Bool.not_false, Bool.true_and, Bool.false_and, decide_false, Nat.reduceLeDiff, bl_LAW_18, bl_LAW_228, bl_LAW_291, bl_LAW_314, bl_LAW_337, bl_LAW_370, bl_LAW_403, bl_LAW_436, bl_LAW_459, bl_LAW_477, bl_LAW_478, bl_LAW_499, bl_LAW_500, bl_LAW_508, bl_LAW_541, bl_LAW_574, bl_LAW_597, bl_LAW_620, bl_LAW_643, bl_LAW_666, bl_LAW_699, bl_LAW_722, bl_LAW_755, bl_LAW_778, bl_LAW_791, bl_LAW_824, bl_LAW_847, bl_LAW_880, bl_LAW_903, bl_LAW_936, bl_LAW_959, bl_LAW_972, bl_LAW_985, bl_LAW_998, bl_LAW_1021, bl_LAW_1034, bl_LAW_1047, bl_LAW_1070, bl_LAW_1103, bl_LAW_1116, bl_LAW_1139, bl_LAW_1172, bl_LAW_1195, bl_LAW_1239, bl_LAW_1272, bl_LAW_1315, bl_LAW_1389, bl_LAW_1412, bl_LAW_1435, bl_LAW_1458, bl_LAW_1481, r_LAW, h_LAW_18]
    (repeat' with_reducible first | apply And.intro | intro _)
    all_goals try omega
    all_goals try exact hy
    all_goals try exact N σ c s (by omega) (by omega) h5'
    · exact w_feed hS hX9 hi5 h5 h9 (by omega) (by omega) hd N
    · exact w_bridge hS hX9 hi5 h5 h9 (by omega) (by omega) hd N
    · exact w_fault hS hX9 hi5 h5 h9 (by omega) (by omega) hd N
    · exact w_person hS hX9 hi5 h5 h9 (by omega) (by omega) hd N
    · exact w_owes hS hX9 hi5 h5 h9 (by omega) (by omega) hd N
    · exact w_plank hS hX9 hi5 h5 h9 (by omega) (by omega) hd N
    · exact w_seed hS hX9 hi5 h5 h9 (by omega) (by omega) hd N
    · exact w_step hS hX9 hi5 h5 h9 (by omega) (by omega) hd N
    · exact w_hand hS hX9 hi5 h5 h9 (by omega) (by omega) hd N
    · exact w_tear hS hX9 hi5 h5 h9 (by omega) (by omega) hd N
    · exact w_cancel hS hX9 hi5 h5 h9 (by omega) (by omega) hd N
    · exact w_mend hS hX9 hi5 h5 h9 (by omega) (by omega) hd N
    · exact w_days hS hX9 hi5 h5 h9 (by omega) (by omega) hd N
    · exact w_undo hS hX9 hi5 h5 h9 (by omega) (by omega) hd N
    · exact w_judge hS hX9 hi5 h5 h9 (by omega) (by omega) hd N
    · exact w_perform hS hX9 hi5 h5 h9 (by omega) (by omega) hd N
    · exact w_season hS hX9 hi5 h5 h9 (by omega) (by omega) hd N
    · exact w_alone hS hX9 hi5 h5 h9 (by omega) (by omega) hd N
    · exact w_able hS hX9 hi5 h5 h9 (by omega) (by omega) hd N
    · exact w_tears hS hX9 hi5 h5 h9 (by omega) (by omega) hd N
    · exact w_row hS hX9 hi5 h5 h9 (by omega) (by omega) hd N
    · exact w_order hS hX9 hi5 h5 h9 (by omega) (by omega) hd N
    · exact w_orders hS hX9 hi5 h5 h9 (by omega) (by omega) hd N
    · exact w_apart hS hX9 hi5 h5 h9 (by omega) (by omega) hd N
    · exact w_net hS hX9 hi5 h5 h9 (by omega) (by omega) hd N
    · exact w_coin hS hX9 hi5 h5 h9 (by omega) (by omega) hd N
    · exact w_settles hS hX9 hi5 h5 h9 (by omega) (by omega) hd N
    · exact w_rings hS hX9 hi5 h5 h9 (by omega) (by omega) hd N
    · exact w_ring hS hX9 hi5 h5 h9 (by omega) (by omega) hd N
    · exact w_heaviest hS hX9 hi5 h5 h9 (by omega) (by omega) hd N
    · exact w_forgive hS hX9 hi5 h5 h9 (by omega) (by omega) hd N
    · exact w_mends hS hX9 hi5 h5 h9 (by omega) (by omega) hd N
    · exact w_mendsAt hS hX9 hi5 h5 h9 (by omega) (by omega) hd N
    · exact w_mendsAll hS hX9 hi5 h5 h9 (by omega) (by omega) hd N
    · exact w_torn hS hX9 hi5 h5 h9 (by omega) (by omega) hd N
    · exact w_tornAt hS hX9 hi5 h5 h9 (by omega) (by omega) hd N
    · exact w_weighed hS hX9 hi5 h5 h9 (by omega) (by omega) hd N
    · exact w_chance hS hX9 hi5 h5 h9 (by omega) (by omega) hd N
    · exact w_likely hS hX9 hi5 h5 h9 (by omega) (by omega) hd N
    · exact w_numbers hS hX9 hi5 h5 h9 (by omega) (by omega) hd N
    · exact w_write hS hX9 hi5 h5 h9 (by omega) (by omega) hd N
    · exact w_lists hS hX9 hi5 h5 h9 (by omega) (by omega) hd N
    · exact w_image hS hX9 hi5 h5 h9 (by omega) (by omega) hd N
    · exact w_restore hS hX9 hi5 h5 h9 (by omega) (by omega) hd N
    · exact w_count hS hX9 hi5 h5 h9 (by omega) (by omega) hd N
end LAWL
