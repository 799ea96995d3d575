/-! 40: the class: deeds told in a row, deeds that are drawn -/
abbrev ty (t : Nat) : AV := .inr (.inr (some (8, t)))
theorem whyN_s {a : BV} {lw ll : List Int} {v : Int} (h : 0 ≤ v ∧ v ≤ 9) : whyN a lw ll v = whyS a lw ll v 1 ∧ doA a v = stpA a v 1 := by
  unfold whyN doA
  rw [if_neg (by omega), if_pos h, if_neg (by omega), if_pos (by omega)]
  exact ⟨rfl, rfl⟩
theorem whyN_d {a : BV} {lw ll : List Int} : whyN a lw ll (-1) = 0 ∧ doA a (-1) = dayA a := by
  unfold whyN doA
  rw [if_pos rfl, if_pos rfl]
  exact ⟨rfl, rfl⟩
theorem whyN_h {a : BV} {lw ll : List Int} {p q : Int} (hp : 0 ≤ p ∧ p ≤ 9) (hq : 0 ≤ q ∧ q ≤ 9) : whyN a lw ll (100 + 10 * p + q) = whyH a lw ll p q ∧ doA a (100 + 10 * p + q) = hndA a p q := by
  unfold whyN doA
  rw [if_neg (by omega), if_neg (by omega), if_neg (by omega), if_pos (by omega), if_neg (by omega), if_neg (by omega), if_neg (by omega), if_pos (by omega), show (100 + 10 * p + q - 100) / 10 = p by omega, show (100 + 10 * p + q) % 10 = q by omega]
  exact ⟨rfl, rfl⟩
theorem whyN_t {a : BV} {lw ll : List Int} {p q : Int} (hp : 0 ≤ p ∧ p ≤ 9) (hq : 0 ≤ q ∧ q ≤ 9) : whyN a lw ll (200 + 10 * p + q) = whyT a p q ∧ doA a (200 + 10 * p + q) = torA a p q := by
  unfold whyN doA
  rw [if_neg (by omega), if_neg (by omega), if_neg (by omega), if_neg (by omega), if_pos (by omega), if_neg (by omega), if_neg (by omega), if_neg (by omega), if_neg (by omega), if_pos (by omega), show (200 + 10 * p + q - 200) / 10 = p by omega, show (200 + 10 * p + q) % 10 = q by omega]
  exact ⟨rfl, rfl⟩
section CT
variable {d w : Nat} {σ : Mem} {b : BV} {lw ll : List Int} {K : Option AV → Mem → Prop}
theorem c_doDrawn (hw2 : w < 2) (hi : WI σ w b lw ll) (hd : V σ w b 18 < 1000000000)
    (h0 : ∀ σ', eqi [27, 28, 39] [7, 33, 34, 35] w σ σ' → whyN (drnA (V σ w b)) lw ll (drnV (V σ w b 20)) = 0 → V σ' w b = mBr lw 8 (doA (drnA (V σ w b)) (drnV (V σ w b 20))) → K (some (.inl 0)) σ')
    (h1 : ∀ σ', eqi [27, 28, 39] [7, 33, 34, 35] w σ σ' → ¬ whyN (drnA (V σ w b)) lw ll (drnV (V σ w b 20)) = 0 → V σ' w b = drnA (V σ w b) → K (some (.inl (whyN (drnA (V σ w b)) lw ll (drnV (V σ w b 20))))) σ') : Ev (d + 6) 12 [dd w] σ K := by
  have hw := hi.1
  have ho := hi.2.2.1
  have v1 : ∀ y : Int, V (mu σ 7 w 6 y) w b = vu (V σ w b) 20 y := fun y => V_18 (by decide)
  have v2 : ∀ y z : Int, V (mu (mu σ 7 w 6 y) 7 w 6 z) w b = vu (V σ w b) 20 z := fun y z => by rw [V_18 (s := 6) (j := 20) (by decide), v1, vu_vu]
  have v3 : ∀ y z u : Int, V (mu (mu (mu σ 7 w 6 y) 7 w 6 z) 7 w 6 u) w b = vu (V σ w b) 20 u := fun y z u => by rw [V_18 (s := 6) (j := 20) (by decide), v2, vu_vu]
  have okx : ∀ y : Int, OkA (vu (V σ w b) 20 y) := fun y => vu_ok ho (Or.inr (Or.inr (Or.inl rfl)))
  have x1 : ∀ y : Int, eqi [27, 28, 39] [7, 33, 34, 35] w σ (mu σ 7 w 6 y) := fun y => eqi_mu eqi.rf (by decide)
  have x2 : ∀ y z : Int, eqi [27, 28, 39] [7, 33, 34, 35] w σ (mu (mu σ 7 w 6 y) 7 w 6 z) := fun y z => eqi_mu (x1 y) (by decide)
  have x3 : ∀ y z u : Int, eqi [27, 28, 39] [7, 33, 34, 35] w σ (mu (mu (mu σ 7 w 6 y) 7 w 6 z) 7 w 6 u) := fun y z u => eqi_mu (x2 y z) (by decide)
  have i1 : ∀ y : Int, WI (mu σ 7 w 6 y) w b lw ll := fun y => WI_i (x1 y) (by decide) (by rw [v1]; exact okx y) hi
  have i2 : ∀ y z : Int, WI (mu (mu σ 7 w 6 y) 7 w 6 z) w b lw ll := fun y z => WI_i (x2 y z) (by decide) (by rw [v2]; exact okx z) hi
  have i3 : ∀ y z u : Int, WI (mu (mu (mu σ 7 w 6 y) 7 w 6 z) 7 w 6 u) w b lw ll := fun y z u => WI_i (x3 y z u) (by decide) (by rw [v3]; exact okx u) hi
  have b1 := dval_b (x := V σ w b 20) (b := 6) (by decide)
  have b2 := dval_b (x := drw (V σ w b 20)) (b := 6) (by decide)
  have b3 := dval_b (x := drw (drw (V σ w b 20))) (b := 6) (by decide)
  have hdv : ∀ y : Int, (drw y % 4294967296 / 65536).tmod 6 = dval y 6 := fun y => rfl
  have d18 : ∀ y : Int, vu (V σ w b) 20 y 18 = V σ w b 18 := fun y => vu_ne (by decide)
  refine e_X0_doDrawn (Nat.le_of_ble_eq_true rfl) ?_
  simp only [wp_c, st_iload, st_lload, st_aload, st_istore, st_lstore, st_astore, st_iinc, st_sipush, st_jsr_w, st_goto, st_jsr, st_goto_w, st_if_icmp, st_ifCond, st_iadd, st_isub, st_imul, st_idiv, st_irem, st_iand, st_ior, st_ixor, st_ishl, st_ishr, st_iushr, st_ladd, st_lsub, st_lmul, st_ldiv, st_lrem, st_land, st_lor, st_lshl, st_lshr, st_i2l, st_l2i, st_i2b, st_i2s, st_i2c, st_lcmp, st_dup, st_pop, st_dup2, st_pop2, st_getfield, st_getstatic, st_checkcast, st_instanceof, st_putfield, st_putstatic, st_dstore, st_iaload, st_baload, st_laload, st_aaload, st_iastore, st_bastore, st_lastore, st_arraylength, st_dcmpg, st_dcmpl, st_fcmpg, st_fcmpl, st_monitorenter, st_tableswitch, st_multianewarray, st_invokeinterface, st_ireturn, st_lreturn, st_return_, popI_c, popL_c, popR_c, popV_c, getI_c, getL_c, getR_c, lg_z, lg_s, ls1_z, ls1_o, ls1_s, ls2_z, ls2_o, ls2_s, noL_i, noL_l, noL_r, isL_i, isL_l, isL_r, tk_z, tk_s, psh_n, psh_s, ent_e, entL_n, entL_c, cc_eq, cc_ne, cc_lt, cc_ge, cc_gt, cc_le, swt_n, swt_c, akds, alens, cnts, arfs, inb_e, lcm_lt, lcm_gt, lcm_ge, lcm_le, lcm_eq, lcm_a, lcm_b, Int.reduceToNat, Nat.reduceDiv, Nat.reduceMod, Nat.reduceMul, Nat.reduceAdd, Nat.reduceSub, Nat.reduceLT, Nat.reduceLeDiff, Nat.reduceEqDiff, Int.reduceNeg, Int.reduceAdd, Nat.one_mul, Nat.zero_mul, Nat.add_zero, Nat.zero_add, if_true, if_false, eq_self, true_and, and_true, true_or, or_true, false_or, or_false, List.length_cons, List.length_nil, List.cons_append, List.nil_append, List.replicate_zero, List.replicate_succ, Nat.lt_irrefl, reduceCtorEq, Bool.false_eq_true, in32, in64, Int.reduceLE, Int.reduceLT, Int.reduceEq, Int.reduceNe, not_true_eq_false, not_false_eq_true, true_implies, false_implies, implies_true, false_and, and_false, and_self, b_X0_doDrawn, r_X0_doDrawn]
  (repeat' with_reducible first | apply And.intro | intro _)
  all_goals try omega
  refine c_draw hw2 hi ?_
  simp only [wp_c, st_iload, st_lload, st_aload, st_istore, st_lstore, st_astore, st_iinc, st_sipush, st_jsr_w, st_goto, st_jsr, st_goto_w, st_if_icmp, st_ifCond, st_iadd, st_isub, st_imul, st_idiv, st_irem, st_iand, st_ior, st_ixor, st_ishl, st_ishr, st_iushr, st_ladd, st_lsub, st_lmul, st_ldiv, st_lrem, st_land, st_lor, st_lshl, st_lshr, st_i2l, st_l2i, st_i2b, st_i2s, st_i2c, st_lcmp, st_dup, st_pop, st_dup2, st_pop2, st_getfield, st_getstatic, st_checkcast, st_instanceof, st_putfield, st_putstatic, st_dstore, st_iaload, st_baload, st_laload, st_aaload, st_iastore, st_bastore, st_lastore, st_arraylength, st_dcmpg, st_dcmpl, st_fcmpg, st_fcmpl, st_monitorenter, st_tableswitch, st_multianewarray, st_invokeinterface, st_ireturn, st_lreturn, st_return_, popI_c, popL_c, popR_c, popV_c, getI_c, getL_c, getR_c, lg_z, lg_s, ls1_z, ls1_o, ls1_s, ls2_z, ls2_o, ls2_s, noL_i, noL_l, noL_r, isL_i, isL_l, isL_r, tk_z, tk_s, psh_n, psh_s, ent_e, entL_n, entL_c, cc_eq, cc_ne, cc_lt, cc_ge, cc_gt, cc_le, swt_n, swt_c, akds, alens, cnts, arfs, inb_e, lcm_lt, lcm_gt, lcm_ge, lcm_le, lcm_eq, lcm_a, lcm_b, Int.reduceToNat, Nat.reduceDiv, Nat.reduceMod, Nat.reduceMul, Nat.reduceAdd, Nat.reduceSub, Nat.reduceLT, Nat.reduceLeDiff, Nat.reduceEqDiff, Int.reduceNeg, Int.reduceAdd, Nat.one_mul, Nat.zero_mul, Nat.add_zero, Nat.zero_add, if_true, if_false, eq_self, true_and, and_true, true_or, or_true, false_or, or_false, List.length_cons, List.length_nil, List.cons_append, List.nil_append, List.replicate_zero, List.replicate_succ, Nat.lt_irrefl, reduceCtorEq, Bool.false_eq_true, in32, in64, Int.reduceLE, Int.reduceLT, Int.reduceEq, Int.reduceNe, not_true_eq_false, not_false_eq_true, true_implies, false_implies, implies_true, false_and, and_false, and_self, b_X0_doDrawn, r_X0_doDrawn, hdv]
  (repeat' with_reducible first | apply And.intro | intro _)
  all_goals try omega
  · rename_i c
    refine c_draw hw2 (i1 _) ?_
    rw [v1, vu_eq]
    simp only [wp_c, st_iload, st_lload, st_aload, st_istore, st_lstore, st_astore, st_iinc, st_sipush, st_jsr_w, st_goto, st_jsr, st_goto_w, st_if_icmp, st_ifCond, st_iadd, st_isub, st_imul, st_idiv, st_irem, st_iand, st_ior, st_ixor, st_ishl, st_ishr, st_iushr, st_ladd, st_lsub, st_lmul, st_ldiv, st_lrem, st_land, st_lor, st_lshl, st_lshr, st_i2l, st_l2i, st_i2b, st_i2s, st_i2c, st_lcmp, st_dup, st_pop, st_dup2, st_pop2, st_getfield, st_getstatic, st_checkcast, st_instanceof, st_putfield, st_putstatic, st_dstore, st_iaload, st_baload, st_laload, st_aaload, st_iastore, st_bastore, st_lastore, st_arraylength, st_dcmpg, st_dcmpl, st_fcmpg, st_fcmpl, st_monitorenter, st_tableswitch, st_multianewarray, st_invokeinterface, st_ireturn, st_lreturn, st_return_, popI_c, popL_c, popR_c, popV_c, getI_c, getL_c, getR_c, lg_z, lg_s, ls1_z, ls1_o, ls1_s, ls2_z, ls2_o, ls2_s, noL_i, noL_l, noL_r, isL_i, isL_l, isL_r, tk_z, tk_s, psh_n, psh_s, ent_e, entL_n, entL_c, cc_eq, cc_ne, cc_lt, cc_ge, cc_gt, cc_le, swt_n, swt_c, akds, alens, cnts, arfs, inb_e, lcm_lt, lcm_gt, lcm_ge, lcm_le, lcm_eq, lcm_a, lcm_b, Int.reduceToNat, Nat.reduceDiv, Nat.reduceMod, Nat.reduceMul, Nat.reduceAdd, Nat.reduceSub, Nat.reduceLT, Nat.reduceLeDiff, Nat.reduceEqDiff, Int.reduceNeg, Int.reduceAdd, Nat.one_mul, Nat.zero_mul, Nat.add_zero, Nat.zero_add, if_true, if_false, eq_self, true_and, and_true, true_or, or_true, false_or, or_false, List.length_cons, List.length_nil, List.cons_append, List.nil_append, List.replicate_zero, List.replicate_succ, Nat.lt_irrefl, reduceCtorEq, Bool.false_eq_true, in32, in64, Int.reduceLE, Int.reduceLT, Int.reduceEq, Int.reduceNe, not_true_eq_false, not_false_eq_true, true_implies, false_implies, implies_true, false_and, and_false, and_self, b_X0_doDrawn, r_X0_doDrawn, hdv]
    (repeat' with_reducible first | apply And.intro | intro _)
    all_goals try omega
    · rename_i c2
      refine c_draw hw2 (i2 _ _) ?_
      rw [v2, vu_eq]
      have eA : drnA (V σ w b) = vu (V σ w b) 20 (drw (drw (drw (V σ w b 20)))) := by
        unfold drnA drnX
        rw [if_neg c, if_neg (by omega)]
      rw [eA] at h0 h1
      simp only [wp_c, st_iload, st_lload, st_aload, st_istore, st_lstore, st_astore, st_iinc, st_sipush, st_jsr_w, st_goto, st_jsr, st_goto_w, st_if_icmp, st_ifCond, st_iadd, st_isub, st_imul, st_idiv, st_irem, st_iand, st_ior, st_ixor, st_ishl, st_ishr, st_iushr, st_ladd, st_lsub, st_lmul, st_ldiv, st_lrem, st_land, st_lor, st_lshl, st_lshr, st_i2l, st_l2i, st_i2b, st_i2s, st_i2c, st_lcmp, st_dup, st_pop, st_dup2, st_pop2, st_getfield, st_getstatic, st_checkcast, st_instanceof, st_putfield, st_putstatic, st_dstore, st_iaload, st_baload, st_laload, st_aaload, st_iastore, st_bastore, st_lastore, st_arraylength, st_dcmpg, st_dcmpl, st_fcmpg, st_fcmpl, st_monitorenter, st_tableswitch, st_multianewarray, st_invokeinterface, st_ireturn, st_lreturn, st_return_, popI_c, popL_c, popR_c, popV_c, getI_c, getL_c, getR_c, lg_z, lg_s, ls1_z, ls1_o, ls1_s, ls2_z, ls2_o, ls2_s, noL_i, noL_l, noL_r, isL_i, isL_l, isL_r, tk_z, tk_s, psh_n, psh_s, ent_e, entL_n, entL_c, cc_eq, cc_ne, cc_lt, cc_ge, cc_gt, cc_le, swt_n, swt_c, akds, alens, cnts, arfs, inb_e, lcm_lt, lcm_gt, lcm_ge, lcm_le, lcm_eq, lcm_a, lcm_b, Int.reduceToNat, Nat.reduceDiv, Nat.reduceMod, Nat.reduceMul, Nat.reduceAdd, Nat.reduceSub, Nat.reduceLT, Nat.reduceLeDiff, Nat.reduceEqDiff, Int.reduceNeg, Int.reduceAdd, Nat.one_mul, Nat.zero_mul, Nat.add_zero, Nat.zero_add, if_true, if_false, eq_self, true_and, and_true, true_or, or_true, false_or, or_false, List.length_cons, List.length_nil, List.cons_append, List.nil_append, List.replicate_zero, List.replicate_succ, Nat.lt_irrefl, reduceCtorEq, Bool.false_eq_true, in32, in64, Int.reduceLE, Int.reduceLT, Int.reduceEq, Int.reduceNe, not_true_eq_false, not_false_eq_true, true_implies, false_implies, implies_true, false_and, and_false, and_self, b_X0_doDrawn, r_X0_doDrawn, hdv]
      (repeat' with_reducible first | apply And.intro | intro _)
      all_goals try omega
      · rename_i c3
        have eV : drnV (V σ w b 20) = 200 + 10 * dval (drw (V σ w b 20)) 6 + dval (drw (drw (V σ w b 20))) 6 := by
          unfold drnV
          rw [if_neg c, if_neg (by omega)]
          omega
        have wt := whyN_t (a := vu (V σ w b) 20 (drw (drw (drw (V σ w b 20))))) (lw := lw) (ll := ll) (p := dval (drw (V σ w b 20)) 6) (q := dval (drw (drw (V σ w b 20))) 6) ⟨by omega, by omega⟩ ⟨by omega, by omega⟩
        rw [eV, wt.1] at h0 h1
        rw [wt.2] at h0
        refine c_tearPaper hw2 ⟨by omega, by omega⟩ ⟨by omega, by omega⟩ (i3 _ _ _) (fun σ1 y1 g1 g2 => ?_) (fun g1 => ?_)
        all_goals rw [v3] at g1
        all_goals simp only [wp_c, st_iload, st_lload, st_aload, st_istore, st_lstore, st_astore, st_iinc, st_sipush, st_jsr_w, st_goto, st_jsr, st_goto_w, st_if_icmp, st_ifCond, st_iadd, st_isub, st_imul, st_idiv, st_irem, st_iand, st_ior, st_ixor, st_ishl, st_ishr, st_iushr, st_ladd, st_lsub, st_lmul, st_ldiv, st_lrem, st_land, st_lor, st_lshl, st_lshr, st_i2l, st_l2i, st_i2b, st_i2s, st_i2c, st_lcmp, st_dup, st_pop, st_dup2, st_pop2, st_getfield, st_getstatic, st_checkcast, st_instanceof, st_putfield, st_putstatic, st_dstore, st_iaload, st_baload, st_laload, st_aaload, st_iastore, st_bastore, st_lastore, st_arraylength, st_dcmpg, st_dcmpl, st_fcmpg, st_fcmpl, st_monitorenter, st_tableswitch, st_multianewarray, st_invokeinterface, st_ireturn, st_lreturn, st_return_, popI_c, popL_c, popR_c, popV_c, getI_c, getL_c, getR_c, lg_z, lg_s, ls1_z, ls1_o, ls1_s, ls2_z, ls2_o, ls2_s, noL_i, noL_l, noL_r, isL_i, isL_l, isL_r, tk_z, tk_s, psh_n, psh_s, ent_e, entL_n, entL_c, cc_eq, cc_ne, cc_lt, cc_ge, cc_gt, cc_le, swt_n, swt_c, akds, alens, cnts, arfs, inb_e, lcm_lt, lcm_gt, lcm_ge, lcm_le, lcm_eq, lcm_a, lcm_b, Int.reduceToNat, Nat.reduceDiv, Nat.reduceMod, Nat.reduceMul, Nat.reduceAdd, Nat.reduceSub, Nat.reduceLT, Nat.reduceLeDiff, Nat.reduceEqDiff, Int.reduceNeg, Int.reduceAdd, Nat.one_mul, Nat.zero_mul, Nat.add_zero, Nat.zero_add, if_true, if_false, eq_self, true_and, and_true, true_or, or_true, false_or, or_false, List.length_cons, List.length_nil, List.cons_append, List.nil_append, List.replicate_zero, List.replicate_succ, Nat.lt_irrefl, reduceCtorEq, Bool.false_eq_true, in32, in64, Int.reduceLE, Int.reduceLT, Int.reduceEq, Int.reduceNe, not_true_eq_false, not_false_eq_true, true_implies, false_implies, implies_true, false_and, and_false, and_self, b_X0_doDrawn, r_X0_doDrawn]
        · rw [v3] at g2
          exact h0 σ1 ((x3 _ _ _).tr y1) g1 g2
        · rw [v3]
          exact h1 _ (x3 _ _ _) g1 (v3 _ _ _)
      · rename_i c3
        have eV : drnV (V σ w b 20) = 100 + 10 * dval (drw (V σ w b 20)) 6 + dval (drw (drw (V σ w b 20))) 6 := by
          unfold drnV
          rw [if_neg c, if_neg (by omega)]
          omega
        have wt := whyN_h (a := vu (V σ w b) 20 (drw (drw (drw (V σ w b 20))))) (lw := lw) (ll := ll) (p := dval (drw (V σ w b 20)) 6) (q := dval (drw (drw (V σ w b 20))) 6) ⟨by omega, by omega⟩ ⟨by omega, by omega⟩
        rw [eV, wt.1] at h0 h1
        rw [wt.2] at h0
        refine c_goTogether hw2 ⟨by omega, by omega⟩ ⟨by omega, by omega⟩ (i3 _ _ _) (fun σ1 y1 g1 g2 => ?_) (fun σ1 y1 g1 => ?_)
        all_goals rw [v3] at g1
        all_goals simp only [wp_c, st_iload, st_lload, st_aload, st_istore, st_lstore, st_astore, st_iinc, st_sipush, st_jsr_w, st_goto, st_jsr, st_goto_w, st_if_icmp, st_ifCond, st_iadd, st_isub, st_imul, st_idiv, st_irem, st_iand, st_ior, st_ixor, st_ishl, st_ishr, st_iushr, st_ladd, st_lsub, st_lmul, st_ldiv, st_lrem, st_land, st_lor, st_lshl, st_lshr, st_i2l, st_l2i, st_i2b, st_i2s, st_i2c, st_lcmp, st_dup, st_pop, st_dup2, st_pop2, st_getfield, st_getstatic, st_checkcast, st_instanceof, st_putfield, st_putstatic, st_dstore, st_iaload, st_baload, st_laload, st_aaload, st_iastore, st_bastore, st_lastore, st_arraylength, st_dcmpg, st_dcmpl, st_fcmpg, st_fcmpl, st_monitorenter, st_tableswitch, st_multianewarray, st_invokeinterface, st_ireturn, st_lreturn, st_return_, popI_c, popL_c, popR_c, popV_c, getI_c, getL_c, getR_c, lg_z, lg_s, ls1_z, ls1_o, ls1_s, ls2_z, ls2_o, ls2_s, noL_i, noL_l, noL_r, isL_i, isL_l, isL_r, tk_z, tk_s, psh_n, psh_s, ent_e, entL_n, entL_c, cc_eq, cc_ne, cc_lt, cc_ge, cc_gt, cc_le, swt_n, swt_c, akds, alens, cnts, arfs, inb_e, lcm_lt, lcm_gt, lcm_ge, lcm_le, lcm_eq, lcm_a, lcm_b, Int.reduceToNat, Nat.reduceDiv, Nat.reduceMod, Nat.reduceMul, Nat.reduceAdd, Nat.reduceSub, Nat.reduceLT, Nat.reduceLeDiff, Nat.reduceEqDiff, Int.reduceNeg, Int.reduceAdd, Nat.one_mul, Nat.zero_mul, Nat.add_zero, Nat.zero_add, if_true, if_false, eq_self, true_and, and_true, true_or, or_true, false_or, or_false, List.length_cons, List.length_nil, List.cons_append, List.nil_append, List.replicate_zero, List.replicate_succ, Nat.lt_irrefl, reduceCtorEq, Bool.false_eq_true, in32, in64, Int.reduceLE, Int.reduceLT, Int.reduceEq, Int.reduceNe, not_true_eq_false, not_false_eq_true, true_implies, false_implies, implies_true, false_and, and_false, and_self, b_X0_doDrawn, r_X0_doDrawn]
        · rw [v3] at g2
          exact h0 σ1 ((x3 _ _ _).tr y1) g1 g2
        · rw [v3]
          exact h1 σ1 ((x3 _ _ _).tr (y1.i (by decide))) g1 ((V_x y1 (by decide) w b).trans (v3 _ _ _))
    · rename_i c2
      have eA : drnA (V σ w b) = vu (V σ w b) 20 (drw (drw (V σ w b 20))) := by
        unfold drnA drnX
        rw [if_neg c, if_pos (by omega)]
      have eV : drnV (V σ w b 20) = dval (drw (V σ w b 20)) 6 := by
        unfold drnV
        rw [if_neg c, if_pos (by omega)]
      have wt := whyN_s (a := vu (V σ w b) 20 (drw (drw (V σ w b 20)))) (lw := lw) (ll := ll) (v := dval (drw (V σ w b 20)) 6) ⟨by omega, by omega⟩
      rw [eA, eV, wt.1] at h0 h1
      rw [wt.2] at h0
      refine c_stepBy hw2 ⟨by omega, by omega⟩ (Or.inl rfl) (i2 _ _) (fun σ1 y1 g1 g2 => ?_) (fun σ1 y1 g1 => ?_)
      all_goals rw [v2] at g1
      all_goals simp only [wp_c, st_iload, st_lload, st_aload, st_istore, st_lstore, st_astore, st_iinc, st_sipush, st_jsr_w, st_goto, st_jsr, st_goto_w, st_if_icmp, st_ifCond, st_iadd, st_isub, st_imul, st_idiv, st_irem, st_iand, st_ior, st_ixor, st_ishl, st_ishr, st_iushr, st_ladd, st_lsub, st_lmul, st_ldiv, st_lrem, st_land, st_lor, st_lshl, st_lshr, st_i2l, st_l2i, st_i2b, st_i2s, st_i2c, st_lcmp, st_dup, st_pop, st_dup2, st_pop2, st_getfield, st_getstatic, st_checkcast, st_instanceof, st_putfield, st_putstatic, st_dstore, st_iaload, st_baload, st_laload, st_aaload, st_iastore, st_bastore, st_lastore, st_arraylength, st_dcmpg, st_dcmpl, st_fcmpg, st_fcmpl, st_monitorenter, st_tableswitch, st_multianewarray, st_invokeinterface, st_ireturn, st_lreturn, st_return_, popI_c, popL_c, popR_c, popV_c, getI_c, getL_c, getR_c, lg_z, lg_s, ls1_z, ls1_o, ls1_s, ls2_z, ls2_o, ls2_s, noL_i, noL_l, noL_r, isL_i, isL_l, isL_r, tk_z, tk_s, psh_n, psh_s, ent_e, entL_n, entL_c, cc_eq, cc_ne, cc_lt, cc_ge, cc_gt, cc_le, swt_n, swt_c, akds, alens, cnts, arfs, inb_e, lcm_lt, lcm_gt, lcm_ge, lcm_le, lcm_eq, lcm_a, lcm_b, Int.reduceToNat, Nat.reduceDiv, Nat.reduceMod, Nat.reduceMul, Nat.reduceAdd, Nat.reduceSub, Nat.reduceLT, Nat.reduceLeDiff, Nat.reduceEqDiff, Int.reduceNeg, Int.reduceAdd, Nat.one_mul, Nat.zero_mul, Nat.add_zero, Nat.zero_add, if_true, if_false, eq_self, true_and, and_true, true_or, or_true, false_or, or_false, List.length_cons, List.length_nil, List.cons_append, List.nil_append, List.replicate_zero, List.replicate_succ, Nat.lt_irrefl, reduceCtorEq, Bool.false_eq_true, in32, in64, Int.reduceLE, Int.reduceLT, Int.reduceEq, Int.reduceNe, not_true_eq_false, not_false_eq_true, true_implies, false_implies, implies_true, false_and, and_false, and_self, b_X0_doDrawn, r_X0_doDrawn]
      · rw [v2] at g2
        exact h0 σ1 ((x2 _ _).tr y1) g1 g2
      · rw [v2]
        exact h1 σ1 ((x2 _ _).tr (y1.i (by decide))) g1 ((V_x y1 (by decide) w b).trans (v2 _ _))
  · have c : dval (V σ w b 20) 6 = 0 := by omega
    have eA : drnA (V σ w b) = vu (V σ w b) 20 (drw (V σ w b 20)) := by
      unfold drnA drnX
      rw [if_pos c]
    have eV : drnV (V σ w b 20) = -1 := by
      unfold drnV
      rw [if_pos c]
    have wt := whyN_d (a := vu (V σ w b) 20 (drw (V σ w b 20))) (lw := lw) (ll := ll)
    rw [eA, eV, wt.1, wt.2] at h0
    refine c_passDay hw2 (i1 _) (by rw [v1, d18]; exact hd) (fun σ1 y1 g2 => ?_)
    rw [v1] at g2
    simp only [wp_c, st_iload, st_lload, st_aload, st_istore, st_lstore, st_astore, st_iinc, st_sipush, st_jsr_w, st_goto, st_jsr, st_goto_w, st_if_icmp, st_ifCond, st_iadd, st_isub, st_imul, st_idiv, st_irem, st_iand, st_ior, st_ixor, st_ishl, st_ishr, st_iushr, st_ladd, st_lsub, st_lmul, st_ldiv, st_lrem, st_land, st_lor, st_lshl, st_lshr, st_i2l, st_l2i, st_i2b, st_i2s, st_i2c, st_lcmp, st_dup, st_pop, st_dup2, st_pop2, st_getfield, st_getstatic, st_checkcast, st_instanceof, st_putfield, st_putstatic, st_dstore, st_iaload, st_baload, st_laload, st_aaload, st_iastore, st_bastore, st_lastore, st_arraylength, st_dcmpg, st_dcmpl, st_fcmpg, st_fcmpl, st_monitorenter, st_tableswitch, st_multianewarray, st_invokeinterface, st_ireturn, st_lreturn, st_return_, popI_c, popL_c, popR_c, popV_c, getI_c, getL_c, getR_c, lg_z, lg_s, ls1_z, ls1_o, ls1_s, ls2_z, ls2_o, ls2_s, noL_i, noL_l, noL_r, isL_i, isL_l, isL_r, tk_z, tk_s, psh_n, psh_s, ent_e, entL_n, entL_c, cc_eq, cc_ne, cc_lt, cc_ge, cc_gt, cc_le, swt_n, swt_c, akds, alens, cnts, arfs, inb_e, lcm_lt, lcm_gt, lcm_ge, lcm_le, lcm_eq, lcm_a, lcm_b, Int.reduceToNat, Nat.reduceDiv, Nat.reduceMod, Nat.reduceMul, Nat.reduceAdd, Nat.reduceSub, Nat.reduceLT, Nat.reduceLeDiff, Nat.reduceEqDiff, Int.reduceNeg, Int.reduceAdd, Nat.one_mul, Nat.zero_mul, Nat.add_zero, Nat.zero_add, if_true, if_false, eq_self, true_and, and_true, true_or, or_true, false_or, or_false, List.length_cons, List.length_nil, List.cons_append, List.nil_append, List.replicate_zero, List.replicate_succ, Nat.lt_irrefl, reduceCtorEq, Bool.false_eq_true, in32, in64, Int.reduceLE, Int.reduceLT, Int.reduceEq, Int.reduceNe, not_true_eq_false, not_false_eq_true, true_implies, false_implies, implies_true, false_and, and_false, and_self, b_X0_doDrawn, r_X0_doDrawn]
    (repeat' with_reducible first | apply And.intro | intro _)
    all_goals try omega
    all_goals exact h0 σ1 ((x1 _).tr y1) rfl g2
theorem c_doAll {t : Nat} (ht : t < 4) (hw2 : w < 2) (hi : WI σ w b lw ll) (hm : 0 ≤ σ 8 t 3 ∧ σ 8 t 3 ≤ 40) (hn : ∀ k : Int, 0 ≤ k → k < 40 → in64 (σ 36 t k.toNat)) (hd : V σ w b 18 + 40 < 1000000000)
    (hK : ∀ σ', eqi [27, 28, 39] [0, 7, 33, 34, 35] w σ σ' → (σ' 0 w 1, V σ' w b) = (tel lw ll (fun k => σ 36 t k.toNat) (σ 8 t 3).toNat 0 (V σ w b)).2 → WI σ' w b lw ll → K (some (.inl (tel lw ll (fun k => σ 36 t k.toNat) (σ 8 t 3).toNat 0 (V σ w b)).1)) σ') : Ev (d + 7) 10 [dd w, ty t] σ K := by
  have hw := hi.1
  generalize em : σ 8 t 3 = m at hm hK
  have v0 : ∀ (σc : Mem) (z : Int), V (mu σc 0 w 1 z) w b = V σc w b := fun σc z => V_x (L := [0]) (eqx_mu eqx.rf (by decide)) (by decide) w b
  have i0 : ∀ (σc : Mem) (z : Int), WI σc w b lw ll → WI (mu σc 0 w 1 z) w b lw ll := fun σc z h => WI_x (L := [0]) (eqx_mu eqx.rf (by decide)) (by decide) (by decide) h
  have H : ∀ (n : Nat) (k : Int) (σc : Mem), 0 ≤ k → k + n = m → eqi [27, 28, 39] [0, 7, 33, 34, 35] w σ σc → σc 0 w 1 = 0 → WI σc w b lw ll → V σc w b 18 + n < 1000000000 → (∀ σ', eqi [27, 28, 39] [0, 7, 33, 34, 35] w σ σ' → (σ' 0 w 1, V σ' w b) = (tel lw ll (fun k => σ 36 t k.toNat) n k (V σc w b)).2 → WI σ' w b lw ll → K (some (.inl (tel lw ll (fun k => σ 36 t k.toNat) n k (V σc w b)).1)) σ') → Rn (d + 7) 10 7 [dd w, ty t, .inl k] [] σc K := by
    intro n
    induction n with
    | zero =>
      intro k σc hk hkm hx h22 hic hdc hKc
      have e57 : σc 8 t 3 = m := by rw [hx.k (K := 8) (by decide) (by decide), em]
      have := hKc σc hx (by rw [h22]; rfl) hic
      refine l_X0_doAll_7 ?_
      simp only [wp_c, st_iload, st_lload, st_aload, st_istore, st_lstore, st_astore, st_iinc, st_sipush, st_jsr_w, st_goto, st_jsr, st_goto_w, st_if_icmp, st_ifCond, st_iadd, st_isub, st_imul, st_idiv, st_irem, st_iand, st_ior, st_ixor, st_ishl, st_ishr, st_iushr, st_ladd, st_lsub, st_lmul, st_ldiv, st_lrem, st_land, st_lor, st_lshl, st_lshr, st_i2l, st_l2i, st_i2b, st_i2s, st_i2c, st_lcmp, st_dup, st_pop, st_dup2, st_pop2, st_getfield, st_getstatic, st_checkcast, st_instanceof, st_putfield, st_putstatic, st_dstore, st_iaload, st_baload, st_laload, st_aaload, st_iastore, st_bastore, st_lastore, st_arraylength, st_dcmpg, st_dcmpl, st_fcmpg, st_fcmpl, st_monitorenter, st_tableswitch, st_multianewarray, st_invokeinterface, st_ireturn, st_lreturn, st_return_, popI_c, popL_c, popR_c, popV_c, getI_c, getL_c, getR_c, lg_z, lg_s, ls1_z, ls1_o, ls1_s, ls2_z, ls2_o, ls2_s, noL_i, noL_l, noL_r, isL_i, isL_l, isL_r, tk_z, tk_s, psh_n, psh_s, ent_e, entL_n, entL_c, cc_eq, cc_ne, cc_lt, cc_ge, cc_gt, cc_le, swt_n, swt_c, akds, alens, cnts, arfs, inb_e, lcm_lt, lcm_gt, lcm_ge, lcm_le, lcm_eq, lcm_a, lcm_b, Int.reduceToNat, Nat.reduceDiv, Nat.reduceMod, Nat.reduceMul, Nat.reduceAdd, Nat.reduceSub, Nat.reduceLT, Nat.reduceLeDiff, Nat.reduceEqDiff, Int.reduceNeg, Int.reduceAdd, Nat.one_mul, Nat.zero_mul, Nat.add_zero, Nat.zero_add, if_true, if_false, eq_self, true_and, and_true, true_or, or_true, false_or, or_false, List.length_cons, List.length_nil, List.cons_append, List.nil_append, List.replicate_zero, List.replicate_succ, Nat.lt_irrefl, reduceCtorEq, Bool.false_eq_true, in32, in64, Int.reduceLE, Int.reduceLT, Int.reduceEq, Int.reduceNe, not_true_eq_false, not_false_eq_true, true_implies, false_implies, implies_true, false_and, and_false, and_self, b_X0_doAll, r_X0_doAll, h_X0_doAll_7, e57]
      (repeat' with_reducible first | apply And.intro | intro _)
      all_goals try omega
      all_goals (have e : k = m := by omega)
      all_goals subst e
      all_goals exact this
    | succ n ih =>
      intro k σc hk hkm hx h22 hic hdc hKc
      have e57 : σc 8 t 3 = m := by rw [hx.k (K := 8) (by decide) (by decide), em]
      have e58 : σc 36 t k.toNat = σ 36 t k.toNat := by rw [hx.k (K := 36) (by decide) (by decide)]
      have hv := hn k hk (by omega)
      unfold tel at hKc
      have wb := whyN_b (a := V σc w b) (lw := lw) (ll := ll) (v := σ 36 t k.toNat)
      refine l_X0_doAll_7 ?_
      simp only [wp_c, st_iload, st_lload, st_aload, st_istore, st_lstore, st_astore, st_iinc, st_sipush, st_jsr_w, st_goto, st_jsr, st_goto_w, st_if_icmp, st_ifCond, st_iadd, st_isub, st_imul, st_idiv, st_irem, st_iand, st_ior, st_ixor, st_ishl, st_ishr, st_iushr, st_ladd, st_lsub, st_lmul, st_ldiv, st_lrem, st_land, st_lor, st_lshl, st_lshr, st_i2l, st_l2i, st_i2b, st_i2s, st_i2c, st_lcmp, st_dup, st_pop, st_dup2, st_pop2, st_getfield, st_getstatic, st_checkcast, st_instanceof, st_putfield, st_putstatic, st_dstore, st_iaload, st_baload, st_laload, st_aaload, st_iastore, st_bastore, st_lastore, st_arraylength, st_dcmpg, st_dcmpl, st_fcmpg, st_fcmpl, st_monitorenter, st_tableswitch, st_multianewarray, st_invokeinterface, st_ireturn, st_lreturn, st_return_, popI_c, popL_c, popR_c, popV_c, getI_c, getL_c, getR_c, lg_z, lg_s, ls1_z, ls1_o, ls1_s, ls2_z, ls2_o, ls2_s, noL_i, noL_l, noL_r, isL_i, isL_l, isL_r, tk_z, tk_s, psh_n, psh_s, ent_e, entL_n, entL_c, cc_eq, cc_ne, cc_lt, cc_ge, cc_gt, cc_le, swt_n, swt_c, akds, alens, cnts, arfs, inb_e, lcm_lt, lcm_gt, lcm_ge, lcm_le, lcm_eq, lcm_a, lcm_b, Int.reduceToNat, Nat.reduceDiv, Nat.reduceMod, Nat.reduceMul, Nat.reduceAdd, Nat.reduceSub, Nat.reduceLT, Nat.reduceLeDiff, Nat.reduceEqDiff, Int.reduceNeg, Int.reduceAdd, Nat.one_mul, Nat.zero_mul, Nat.add_zero, Nat.zero_add, if_true, if_false, eq_self, true_and, and_true, true_or, or_true, false_or, or_false, List.length_cons, List.length_nil, List.cons_append, List.nil_append, List.replicate_zero, List.replicate_succ, Nat.lt_irrefl, reduceCtorEq, Bool.false_eq_true, in32, in64, Int.reduceLE, Int.reduceLT, Int.reduceEq, Int.reduceNe, not_true_eq_false, not_false_eq_true, true_implies, false_implies, implies_true, false_and, and_false, and_self, b_X0_doAll, r_X0_doAll, h_X0_doAll_7, e57, e58]
      (repeat' with_reducible first | apply And.intro | intro _)
      all_goals try omega
      refine c_doOne hw2 hv hic (by omega) (fun σ1 x1 g1 g2 => ?_) (fun σ1 x1 g1 => ?_)
      · simp only [if_pos g1] at hKc
        have dn := dn_all hic.2.2.1 (by omega) g1
        rw [← g2] at dn hKc
        simp only [wp_c, st_iload, st_lload, st_aload, st_istore, st_lstore, st_astore, st_iinc, st_sipush, st_jsr_w, st_goto, st_jsr, st_goto_w, st_if_icmp, st_ifCond, st_iadd, st_isub, st_imul, st_idiv, st_irem, st_iand, st_ior, st_ixor, st_ishl, st_ishr, st_iushr, st_ladd, st_lsub, st_lmul, st_ldiv, st_lrem, st_land, st_lor, st_lshl, st_lshr, st_i2l, st_l2i, st_i2b, st_i2s, st_i2c, st_lcmp, st_dup, st_pop, st_dup2, st_pop2, st_getfield, st_getstatic, st_checkcast, st_instanceof, st_putfield, st_putstatic, st_dstore, st_iaload, st_baload, st_laload, st_aaload, st_iastore, st_bastore, st_lastore, st_arraylength, st_dcmpg, st_dcmpl, st_fcmpg, st_fcmpl, st_monitorenter, st_tableswitch, st_multianewarray, st_invokeinterface, st_ireturn, st_lreturn, st_return_, popI_c, popL_c, popR_c, popV_c, getI_c, getL_c, getR_c, lg_z, lg_s, ls1_z, ls1_o, ls1_s, ls2_z, ls2_o, ls2_s, noL_i, noL_l, noL_r, isL_i, isL_l, isL_r, tk_z, tk_s, psh_n, psh_s, ent_e, entL_n, entL_c, cc_eq, cc_ne, cc_lt, cc_ge, cc_gt, cc_le, swt_n, swt_c, akds, alens, cnts, arfs, inb_e, lcm_lt, lcm_gt, lcm_ge, lcm_le, lcm_eq, lcm_a, lcm_b, Int.reduceToNat, Nat.reduceDiv, Nat.reduceMod, Nat.reduceMul, Nat.reduceAdd, Nat.reduceSub, Nat.reduceLT, Nat.reduceLeDiff, Nat.reduceEqDiff, Int.reduceNeg, Int.reduceAdd, Nat.one_mul, Nat.zero_mul, Nat.add_zero, Nat.zero_add, if_true, if_false, eq_self, true_and, and_true, true_or, or_true, false_or, or_false, List.length_cons, List.length_nil, List.cons_append, List.nil_append, List.replicate_zero, List.replicate_succ, Nat.lt_irrefl, reduceCtorEq, Bool.false_eq_true, in32, in64, Int.reduceLE, Int.reduceLT, Int.reduceEq, Int.reduceNe, not_true_eq_false, not_false_eq_true, true_implies, false_implies, implies_true, false_and, and_false, and_self, b_X0_doAll, r_X0_doAll, mu_at, if_true]
        (repeat' with_reducible first | apply And.intro | intro _)
        all_goals try omega
        refine ih (k + 1) _ (by omega) (by omega) (eqi_mu (hx.tr (x1.wd (by decide) (by decide))) (by decide)) (by rw [mu_at, if_pos rfl]) (i0 _ _ (WI_i x1 (by decide) dn.1 hic)) (by rw [v0]; omega) (by rw [v0]; exact hKc)
      · simp only [if_neg g1] at hKc
        simp only [wp_c, st_iload, st_lload, st_aload, st_istore, st_lstore, st_astore, st_iinc, st_sipush, st_jsr_w, st_goto, st_jsr, st_goto_w, st_if_icmp, st_ifCond, st_iadd, st_isub, st_imul, st_idiv, st_irem, st_iand, st_ior, st_ixor, st_ishl, st_ishr, st_iushr, st_ladd, st_lsub, st_lmul, st_ldiv, st_lrem, st_land, st_lor, st_lshl, st_lshr, st_i2l, st_l2i, st_i2b, st_i2s, st_i2c, st_lcmp, st_dup, st_pop, st_dup2, st_pop2, st_getfield, st_getstatic, st_checkcast, st_instanceof, st_putfield, st_putstatic, st_dstore, st_iaload, st_baload, st_laload, st_aaload, st_iastore, st_bastore, st_lastore, st_arraylength, st_dcmpg, st_dcmpl, st_fcmpg, st_fcmpl, st_monitorenter, st_tableswitch, st_multianewarray, st_invokeinterface, st_ireturn, st_lreturn, st_return_, popI_c, popL_c, popR_c, popV_c, getI_c, getL_c, getR_c, lg_z, lg_s, ls1_z, ls1_o, ls1_s, ls2_z, ls2_o, ls2_s, noL_i, noL_l, noL_r, isL_i, isL_l, isL_r, tk_z, tk_s, psh_n, psh_s, ent_e, entL_n, entL_c, cc_eq, cc_ne, cc_lt, cc_ge, cc_gt, cc_le, swt_n, swt_c, akds, alens, cnts, arfs, inb_e, lcm_lt, lcm_gt, lcm_ge, lcm_le, lcm_eq, lcm_a, lcm_b, Int.reduceToNat, Nat.reduceDiv, Nat.reduceMod, Nat.reduceMul, Nat.reduceAdd, Nat.reduceSub, Nat.reduceLT, Nat.reduceLeDiff, Nat.reduceEqDiff, Int.reduceNeg, Int.reduceAdd, Nat.one_mul, Nat.zero_mul, Nat.add_zero, Nat.zero_add, if_true, if_false, eq_self, true_and, and_true, true_or, or_true, false_or, or_false, List.length_cons, List.length_nil, List.cons_append, List.nil_append, List.replicate_zero, List.replicate_succ, Nat.lt_irrefl, reduceCtorEq, Bool.false_eq_true, in32, in64, Int.reduceLE, Int.reduceLT, Int.reduceEq, Int.reduceNe, not_true_eq_false, not_false_eq_true, true_implies, false_implies, implies_true, false_and, and_false, and_self, b_X0_doAll, r_X0_doAll, mu_at, if_true]
        (repeat' with_reducible first | apply And.intro | intro _)
        all_goals try omega
        all_goals refine hKc _ (eqi_mu (hx.tr (x1.i (by decide))) (by decide)) ?_ (i0 _ _ (WI_x x1 (by decide) (by decide) hic))
        all_goals rw [v0, V_x x1 (by decide) w b, mu_at, if_pos rfl]
  refine e_X0_doAll (Nat.le_of_ble_eq_true rfl) ?_
  simp only [wp_c, st_iload, st_lload, st_aload, st_istore, st_lstore, st_astore, st_iinc, st_sipush, st_jsr_w, st_goto, st_jsr, st_goto_w, st_if_icmp, st_ifCond, st_iadd, st_isub, st_imul, st_idiv, st_irem, st_iand, st_ior, st_ixor, st_ishl, st_ishr, st_iushr, st_ladd, st_lsub, st_lmul, st_ldiv, st_lrem, st_land, st_lor, st_lshl, st_lshr, st_i2l, st_l2i, st_i2b, st_i2s, st_i2c, st_lcmp, st_dup, st_pop, st_dup2, st_pop2, st_getfield, st_getstatic, st_checkcast, st_instanceof, st_putfield, st_putstatic, st_dstore, st_iaload, st_baload, st_laload, st_aaload, st_iastore, st_bastore, st_lastore, st_arraylength, st_dcmpg, st_dcmpl, st_fcmpg, st_fcmpl, st_monitorenter, st_tableswitch, st_multianewarray, st_invokeinterface, st_ireturn, st_lreturn, st_return_, popI_c, popL_c, popR_c, popV_c, getI_c, getL_c, getR_c, lg_z, lg_s, ls1_z, ls1_o, ls1_s, ls2_z, ls2_o, ls2_s, noL_i, noL_l, noL_r, isL_i, isL_l, isL_r, tk_z, tk_s, psh_n, psh_s, ent_e, entL_n, entL_c, cc_eq, cc_ne, cc_lt, cc_ge, cc_gt, cc_le, swt_n, swt_c, akds, alens, cnts, arfs, inb_e, lcm_lt, lcm_gt, lcm_ge, lcm_le, lcm_eq, lcm_a, lcm_b, Int.reduceToNat, Nat.reduceDiv, Nat.reduceMod, Nat.reduceMul, Nat.reduceAdd, Nat.reduceSub, Nat.reduceLT, Nat.reduceLeDiff, Nat.reduceEqDiff, Int.reduceNeg, Int.reduceAdd, Nat.one_mul, Nat.zero_mul, Nat.add_zero, Nat.zero_add, if_true, if_false, eq_self, true_and, and_true, true_or, or_true, false_or, or_false, List.length_cons, List.length_nil, List.cons_append, List.nil_append, List.replicate_zero, List.replicate_succ, Nat.lt_irrefl, reduceCtorEq, Bool.false_eq_true, in32, in64, Int.reduceLE, Int.reduceLT, Int.reduceEq, Int.reduceNe, not_true_eq_false, not_false_eq_true, true_implies, false_implies, implies_true, false_and, and_false, and_self, b_X0_doAll, r_X0_doAll]
  (repeat' with_reducible first | apply And.intro | intro _)
  all_goals try omega
  refine H m.toNat 0 _ (Int.le_refl _) (by omega) (eqi_mu eqi.rf (by decide)) (by rw [mu_at, if_pos rfl]) (i0 _ _ hi) (by rw [v0]; omega) (by rw [v0]; exact hK)
end CT
