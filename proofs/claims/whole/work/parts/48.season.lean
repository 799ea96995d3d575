/-! 48: seasons -/
/-- a season's draws: how many were done, what came of it -/
noncomputable def ssn (lw ll : List Int) : Nat → BV → Int → Int × BV
  | 0, a, n => (n, a)
  | m + 1, a, n => if whyN (drnA a) lw ll (drnV (a 20)) = 0 then ssn lw ll m (mBr lw 8 (doA (drnA a) (drnV (a 20)))) (n + 1) else ssn lw ll m (drnA a) n
theorem ssn_b {lw ll : List Int} : ∀ (m : Nat) (a : BV) (n : Int), n ≤ (ssn lw ll m a n).1 ∧ (ssn lw ll m a n).1 ≤ n + m := by
  intro m
  induction m with
  | zero => intro a n; exact ⟨Int.le_refl _, by show n ≤ n + 0; omega⟩
  | succ m ih =>
    intro a n
    unfold ssn
    split
    · have := ih (mBr lw 8 (doA (drnA a) (drnV (a 20)))) (n + 1)
      omega
    · have := ih (drnA a) n
      omega
theorem ssn_0 {lw ll : List Int} : ∀ (m : Nat) (a : BV) (n : Int), (ssn lw ll m a n).1 = n → ∃ x : Int, (ssn lw ll m a n).2 = vu a 20 x := by
  intro m
  induction m with
  | zero =>
    intro a n _
    refine ⟨a 20, ?_⟩
    funext j
    unfold vu
    by_cases c : j = 20
    · rw [if_pos c, c]
      rfl
    · rw [if_neg c]
      rfl
  | succ m ih =>
    intro a n
    unfold ssn
    split
    · intro h
      have := ssn_b (lw := lw) (ll := ll) m (mBr lw 8 (doA (drnA a) (drnV (a 20)))) (n + 1)
      omega
    · intro h
      obtain ⟨x, hx⟩ := ih (drnA a) n h
      refine ⟨x, ?_⟩
      rw [hx]
      unfold drnA
      rw [vu_vu]
theorem drnA_18 {a : BV} : drnA a 18 = a 18 := vu_ne (by decide)
theorem drnA_h {a : BV} : eqH a (drnA a) := vu_h (by decide)
section SEASON
variable {d : Nat} {σ : Mem} {a b : BV} {lw ll : List Int} {K : Option AV → Mem → Prop}
theorem c_season {sd m : Int} (hm : in32 m) (hi : WI σ 0 b lw ll) (hpa : PI σ a) (hd : V σ 0 b 18 + 40 < 1000000000)
    (hB : ¬ (1 ≤ m ∧ m ≤ 40) → K (some (.inl (-3))) σ)
    (h0 : 1 ≤ m ∧ m ≤ 40 → ∀ σ', frm σ σ' → 0 < (ssn lw ll m.toNat (vu (V σ 0 b) 20 sd) 0).1 → V σ' 0 b = (ssn lw ll m.toNat (vu (V σ 0 b) 20 sd) 0).2 → WI σ' 0 b lw ll → PI σ' (pushA a (row (V σ 0 b))) → K (some (.inl (ssn lw ll m.toNat (vu (V σ 0 b) 20 sd) 0).1)) σ')
    (h1 : 1 ≤ m ∧ m ≤ 40 → ∀ σ', frm σ σ' → (ssn lw ll m.toNat (vu (V σ 0 b) 20 sd) 0).1 = 0 → V σ' 0 b = V σ 0 b → WI σ' 0 b lw ll → PI σ' a → K (some (.inl 0)) σ') : Ev (d + 7) 126 [bo, .inl sd, .inl m] σ K := by
  unfold in32 at hm
  rcases Classical.em (1 ≤ m ∧ m ≤ 40) with c | c
  · have h0 := h0 c
    have h1 := h1 c
    clear hB
    have tb := ssn_b (lw := lw) (ll := ll) m.toNat (vu (V σ 0 b) 20 sd) 0
    have t0 := ssn_0 (lw := lw) (ll := ll) m.toNat (vu (V σ 0 b) 20 sd) 0
    generalize hT : ssn lw ll m.toNat (vu (V σ 0 b) 20 sd) 0 = T at h0 h1 tb t0
    have H : ∀ (n : Nat) (i s : Int) (σc : Mem), 0 ≤ i → i + n = m → frm σ σc → WI σc 0 b lw ll → MK σc a (row (V σ 0 b)) → V σc 0 b 18 + n < 1000000000 → ssn lw ll n (V σc 0 b) s = T → Rn (d + 7) 126 56 [bo, .inl sd, .inl m, .inl (V σ 0 b 20), .inl s, .inl i] [] σc K := by
      intro n
      induction n with
      | zero =>
        intro i s σc g1 g2 hf hic hmk hdc ht
        have ht' : (s, V σc 0 b) = T := ht
        subst ht'
        refine l_X11_season_56 ?_
        simp only [wp_c, st_iload, st_lload, st_aload, st_istore, st_lstore, st_astore, st_iinc, st_sipush, st_jsr_w, st_goto, st_jsr, st_goto_w, st_if_icmp, st_ifCond, st_iadd, st_isub, st_imul, st_idiv, st_irem, st_iand, st_ior, st_ixor, st_ishl, st_ishr, st_iushr, st_ladd, st_lsub, st_lmul, st_ldiv, st_lrem, st_land, st_lor, st_lshl, st_lshr, st_i2l, st_l2i, st_i2b, st_i2s, st_i2c, st_lcmp, st_dup, st_pop, st_dup2, st_pop2, st_getfield, st_getstatic, st_checkcast, st_instanceof, st_putfield, st_putstatic, st_dstore, st_iaload, st_baload, st_laload, st_aaload, st_iastore, st_bastore, st_lastore, st_arraylength, st_dcmpg, st_dcmpl, st_fcmpg, st_fcmpl, st_monitorenter, st_tableswitch, st_multianewarray, st_invokeinterface, st_ireturn, st_lreturn, st_return_, st_ldc, st_ldc_w, st_ldc2_w, st_freturn, st_invokevirtual, st_anewarray0, st_anewarray1, st_anewarray2, st_anewarray3, st_anewarray4, st_anewarray5, st_lookupswitch, popI_c, popL_c, popR_c, popV_c, getI_c, getL_c, getR_c, lg_z, lg_s, ls1_z, ls1_o, ls1_s, ls2_z, ls2_o, ls2_s, noL_i, noL_l, noL_r, isL_i, isL_l, isL_r, tk_z, tk_s, psh_n, psh_s, ent_e, entL_n, entL_c, cc_eq, cc_ne, cc_lt, cc_ge, cc_gt, cc_le, swt_n, swt_c, lsw_n, lsw_c, mPs, NSTR_e, akds, alens, cnts, arfs, inb_e, lcm_lt, lcm_gt, lcm_ge, lcm_le, lcm_eq, lcm_a, lcm_b, Int.reduceToNat, Nat.reduceDiv, Nat.reduceMod, Nat.reduceMul, Nat.reduceAdd, Nat.reduceSub, Nat.reduceLT, Nat.reduceLeDiff, Nat.reduceEqDiff, Int.reduceNeg, Int.reduceAdd, Nat.one_mul, Nat.zero_mul, Nat.add_zero, Nat.zero_add, if_true, if_false, eq_self, true_and, and_true, true_or, or_true, false_or, or_false, List.length_cons, List.length_nil, List.cons_append, List.nil_append, List.replicate_zero, List.replicate_succ, Nat.lt_irrefl, reduceCtorEq, Bool.false_eq_true, in32, in64, Int.reduceLE, Int.reduceLT, Int.reduceEq, Int.reduceNe, not_true_eq_false, not_false_eq_true, true_implies, false_implies, implies_true, false_and, and_false, and_self, b_X11_season, r_X11_season, h_X11_season_56]
        (repeat' with_reducible first | apply And.intro | intro _)
        all_goals try omega
        · rename_i c2
          have hs : s = 0 := by omega
          obtain ⟨x, hx⟩ := t0 hs
          have x2 : eqi [27, 28, 39] [7, 33, 34, 35] 0 σc (mu σc 7 0 6 (V σ 0 b 20)) := eqi_mu eqi.rf (by decide)
          have hx' : V σc 0 b = vu (vu (V σ 0 b) 20 sd) 20 x := hx
          have v2 : V (mu σc 7 0 6 (V σ 0 b 20)) 0 b = V σ 0 b := by
            rw [V_18 (s := 6) (j := 20) (by decide), hx', vu_vu, vu_vu]
            funext j
            unfold vu
            by_cases c3 : j = 20
            · rw [if_pos c3, c3]
            · rw [if_neg c3]
          have := h1 _ (hf.tr (frm.i x2 (by decide) (by decide) (Or.inl rfl))) hs v2 (WI_i x2 (by decide) (by rw [v2]; exact hi.2.2.1) hic) (MK_i x2 (by decide) (by decide) (by decide) hmk).1
          rw [hs]
          exact this
        · refine c_keep hmk.1 hmk.2 (fun σ3 x3 p3 => ?_)
          simp only [wp_c, st_iload, st_lload, st_aload, st_istore, st_lstore, st_astore, st_iinc, st_sipush, st_jsr_w, st_goto, st_jsr, st_goto_w, st_if_icmp, st_ifCond, st_iadd, st_isub, st_imul, st_idiv, st_irem, st_iand, st_ior, st_ixor, st_ishl, st_ishr, st_iushr, st_ladd, st_lsub, st_lmul, st_ldiv, st_lrem, st_land, st_lor, st_lshl, st_lshr, st_i2l, st_l2i, st_i2b, st_i2s, st_i2c, st_lcmp, st_dup, st_pop, st_dup2, st_pop2, st_getfield, st_getstatic, st_checkcast, st_instanceof, st_putfield, st_putstatic, st_dstore, st_iaload, st_baload, st_laload, st_aaload, st_iastore, st_bastore, st_lastore, st_arraylength, st_dcmpg, st_dcmpl, st_fcmpg, st_fcmpl, st_monitorenter, st_tableswitch, st_multianewarray, st_invokeinterface, st_ireturn, st_lreturn, st_return_, st_ldc, st_ldc_w, st_ldc2_w, st_freturn, st_invokevirtual, st_anewarray0, st_anewarray1, st_anewarray2, st_anewarray3, st_anewarray4, st_anewarray5, st_lookupswitch, popI_c, popL_c, popR_c, popV_c, getI_c, getL_c, getR_c, lg_z, lg_s, ls1_z, ls1_o, ls1_s, ls2_z, ls2_o, ls2_s, noL_i, noL_l, noL_r, isL_i, isL_l, isL_r, tk_z, tk_s, psh_n, psh_s, ent_e, entL_n, entL_c, cc_eq, cc_ne, cc_lt, cc_ge, cc_gt, cc_le, swt_n, swt_c, lsw_n, lsw_c, mPs, NSTR_e, akds, alens, cnts, arfs, inb_e, lcm_lt, lcm_gt, lcm_ge, lcm_le, lcm_eq, lcm_a, lcm_b, Int.reduceToNat, Nat.reduceDiv, Nat.reduceMod, Nat.reduceMul, Nat.reduceAdd, Nat.reduceSub, Nat.reduceLT, Nat.reduceLeDiff, Nat.reduceEqDiff, Int.reduceNeg, Int.reduceAdd, Nat.one_mul, Nat.zero_mul, Nat.add_zero, Nat.zero_add, if_true, if_false, eq_self, true_and, and_true, true_or, or_true, false_or, or_false, List.length_cons, List.length_nil, List.cons_append, List.nil_append, List.replicate_zero, List.replicate_succ, Nat.lt_irrefl, reduceCtorEq, Bool.false_eq_true, in32, in64, Int.reduceLE, Int.reduceLT, Int.reduceEq, Int.reduceNe, not_true_eq_false, not_false_eq_true, true_implies, false_implies, implies_true, false_and, and_false, and_self, b_X11_season, r_X11_season]
          (repeat' with_reducible first | apply And.intro | intro _)
          all_goals try omega
          all_goals exact h0 σ3 (hf.tr (frm.x x3 (by decide))) (by show 0 < s; omega) (V_2 x3) (WI_2 x3 hic) p3
      | succ n ih =>
        intro i s σc g1 g2 hf hic hmk hdc ht
        unfold ssn at ht
        have okd := drnA_ok hic.2.2.1
        refine l_X11_season_56 ?_
        simp only [wp_c, st_iload, st_lload, st_aload, st_istore, st_lstore, st_astore, st_iinc, st_sipush, st_jsr_w, st_goto, st_jsr, st_goto_w, st_if_icmp, st_ifCond, st_iadd, st_isub, st_imul, st_idiv, st_irem, st_iand, st_ior, st_ixor, st_ishl, st_ishr, st_iushr, st_ladd, st_lsub, st_lmul, st_ldiv, st_lrem, st_land, st_lor, st_lshl, st_lshr, st_i2l, st_l2i, st_i2b, st_i2s, st_i2c, st_lcmp, st_dup, st_pop, st_dup2, st_pop2, st_getfield, st_getstatic, st_checkcast, st_instanceof, st_putfield, st_putstatic, st_dstore, st_iaload, st_baload, st_laload, st_aaload, st_iastore, st_bastore, st_lastore, st_arraylength, st_dcmpg, st_dcmpl, st_fcmpg, st_fcmpl, st_monitorenter, st_tableswitch, st_multianewarray, st_invokeinterface, st_ireturn, st_lreturn, st_return_, st_ldc, st_ldc_w, st_ldc2_w, st_freturn, st_invokevirtual, st_anewarray0, st_anewarray1, st_anewarray2, st_anewarray3, st_anewarray4, st_anewarray5, st_lookupswitch, popI_c, popL_c, popR_c, popV_c, getI_c, getL_c, getR_c, lg_z, lg_s, ls1_z, ls1_o, ls1_s, ls2_z, ls2_o, ls2_s, noL_i, noL_l, noL_r, isL_i, isL_l, isL_r, tk_z, tk_s, psh_n, psh_s, ent_e, entL_n, entL_c, cc_eq, cc_ne, cc_lt, cc_ge, cc_gt, cc_le, swt_n, swt_c, lsw_n, lsw_c, mPs, NSTR_e, akds, alens, cnts, arfs, inb_e, lcm_lt, lcm_gt, lcm_ge, lcm_le, lcm_eq, lcm_a, lcm_b, Int.reduceToNat, Nat.reduceDiv, Nat.reduceMod, Nat.reduceMul, Nat.reduceAdd, Nat.reduceSub, Nat.reduceLT, Nat.reduceLeDiff, Nat.reduceEqDiff, Int.reduceNeg, Int.reduceAdd, Nat.one_mul, Nat.zero_mul, Nat.add_zero, Nat.zero_add, if_true, if_false, eq_self, true_and, and_true, true_or, or_true, false_or, or_false, List.length_cons, List.length_nil, List.cons_append, List.nil_append, List.replicate_zero, List.replicate_succ, Nat.lt_irrefl, reduceCtorEq, Bool.false_eq_true, in32, in64, Int.reduceLE, Int.reduceLT, Int.reduceEq, Int.reduceNe, not_true_eq_false, not_false_eq_true, true_implies, false_implies, implies_true, false_and, and_false, and_self, b_X11_season, r_X11_season, h_X11_season_56]
        (repeat' with_reducible first | apply And.intro | intro _)
        all_goals try omega
        refine c_doDrawn (w := 0) (b := b) (by decide) hic (by omega) (fun σ2 x2 w2 v2 => ?_) (fun σ2 x2 w2 v2 => ?_)
        · rw [if_pos w2, ← v2] at ht
          have da := dn_all okd (by rw [drnA_18]; omega) w2
          rw [← v2, drnA_18] at da
          simp only [wp_c, st_iload, st_lload, st_aload, st_istore, st_lstore, st_astore, st_iinc, st_sipush, st_jsr_w, st_goto, st_jsr, st_goto_w, st_if_icmp, st_ifCond, st_iadd, st_isub, st_imul, st_idiv, st_irem, st_iand, st_ior, st_ixor, st_ishl, st_ishr, st_iushr, st_ladd, st_lsub, st_lmul, st_ldiv, st_lrem, st_land, st_lor, st_lshl, st_lshr, st_i2l, st_l2i, st_i2b, st_i2s, st_i2c, st_lcmp, st_dup, st_pop, st_dup2, st_pop2, st_getfield, st_getstatic, st_checkcast, st_instanceof, st_putfield, st_putstatic, st_dstore, st_iaload, st_baload, st_laload, st_aaload, st_iastore, st_bastore, st_lastore, st_arraylength, st_dcmpg, st_dcmpl, st_fcmpg, st_fcmpl, st_monitorenter, st_tableswitch, st_multianewarray, st_invokeinterface, st_ireturn, st_lreturn, st_return_, st_ldc, st_ldc_w, st_ldc2_w, st_freturn, st_invokevirtual, st_anewarray0, st_anewarray1, st_anewarray2, st_anewarray3, st_anewarray4, st_anewarray5, st_lookupswitch, popI_c, popL_c, popR_c, popV_c, getI_c, getL_c, getR_c, lg_z, lg_s, ls1_z, ls1_o, ls1_s, ls2_z, ls2_o, ls2_s, noL_i, noL_l, noL_r, isL_i, isL_l, isL_r, tk_z, tk_s, psh_n, psh_s, ent_e, entL_n, entL_c, cc_eq, cc_ne, cc_lt, cc_ge, cc_gt, cc_le, swt_n, swt_c, lsw_n, lsw_c, mPs, NSTR_e, akds, alens, cnts, arfs, inb_e, lcm_lt, lcm_gt, lcm_ge, lcm_le, lcm_eq, lcm_a, lcm_b, Int.reduceToNat, Nat.reduceDiv, Nat.reduceMod, Nat.reduceMul, Nat.reduceAdd, Nat.reduceSub, Nat.reduceLT, Nat.reduceLeDiff, Nat.reduceEqDiff, Int.reduceNeg, Int.reduceAdd, Nat.one_mul, Nat.zero_mul, Nat.add_zero, Nat.zero_add, if_true, if_false, eq_self, true_and, and_true, true_or, or_true, false_or, or_false, List.length_cons, List.length_nil, List.cons_append, List.nil_append, List.replicate_zero, List.replicate_succ, Nat.lt_irrefl, reduceCtorEq, Bool.false_eq_true, in32, in64, Int.reduceLE, Int.reduceLT, Int.reduceEq, Int.reduceNe, not_true_eq_false, not_false_eq_true, true_implies, false_implies, implies_true, false_and, and_false, and_self, b_X11_season, r_X11_season]
          (repeat' with_reducible first | apply And.intro | intro _)
          all_goals try omega
          all_goals exact ih (i + 1) _ σ2 (by omega) (by omega) (hf.tr (frm.i x2 (by decide) (by decide) (Or.inl rfl))) (WI_i x2 (by decide) da.1 hic) (MK_i x2 (by decide) (by decide) (by decide) hmk) (by omega) ht
        · rw [if_neg w2, ← v2] at ht
          have wb := whyN_b (a := drnA (V σc 0 b)) (lw := lw) (ll := ll) (v := drnV (V σc 0 b 20))
          have e18 : V σ2 0 b 18 = V σc 0 b 18 := by rw [v2, drnA_18]
          simp only [wp_c, st_iload, st_lload, st_aload, st_istore, st_lstore, st_astore, st_iinc, st_sipush, st_jsr_w, st_goto, st_jsr, st_goto_w, st_if_icmp, st_ifCond, st_iadd, st_isub, st_imul, st_idiv, st_irem, st_iand, st_ior, st_ixor, st_ishl, st_ishr, st_iushr, st_ladd, st_lsub, st_lmul, st_ldiv, st_lrem, st_land, st_lor, st_lshl, st_lshr, st_i2l, st_l2i, st_i2b, st_i2s, st_i2c, st_lcmp, st_dup, st_pop, st_dup2, st_pop2, st_getfield, st_getstatic, st_checkcast, st_instanceof, st_putfield, st_putstatic, st_dstore, st_iaload, st_baload, st_laload, st_aaload, st_iastore, st_bastore, st_lastore, st_arraylength, st_dcmpg, st_dcmpl, st_fcmpg, st_fcmpl, st_monitorenter, st_tableswitch, st_multianewarray, st_invokeinterface, st_ireturn, st_lreturn, st_return_, st_ldc, st_ldc_w, st_ldc2_w, st_freturn, st_invokevirtual, st_anewarray0, st_anewarray1, st_anewarray2, st_anewarray3, st_anewarray4, st_anewarray5, st_lookupswitch, popI_c, popL_c, popR_c, popV_c, getI_c, getL_c, getR_c, lg_z, lg_s, ls1_z, ls1_o, ls1_s, ls2_z, ls2_o, ls2_s, noL_i, noL_l, noL_r, isL_i, isL_l, isL_r, tk_z, tk_s, psh_n, psh_s, ent_e, entL_n, entL_c, cc_eq, cc_ne, cc_lt, cc_ge, cc_gt, cc_le, swt_n, swt_c, lsw_n, lsw_c, mPs, NSTR_e, akds, alens, cnts, arfs, inb_e, lcm_lt, lcm_gt, lcm_ge, lcm_le, lcm_eq, lcm_a, lcm_b, Int.reduceToNat, Nat.reduceDiv, Nat.reduceMod, Nat.reduceMul, Nat.reduceAdd, Nat.reduceSub, Nat.reduceLT, Nat.reduceLeDiff, Nat.reduceEqDiff, Int.reduceNeg, Int.reduceAdd, Nat.one_mul, Nat.zero_mul, Nat.add_zero, Nat.zero_add, if_true, if_false, eq_self, true_and, and_true, true_or, or_true, false_or, or_false, List.length_cons, List.length_nil, List.cons_append, List.nil_append, List.replicate_zero, List.replicate_succ, Nat.lt_irrefl, reduceCtorEq, Bool.false_eq_true, in32, in64, Int.reduceLE, Int.reduceLT, Int.reduceEq, Int.reduceNe, not_true_eq_false, not_false_eq_true, true_implies, false_implies, implies_true, false_and, and_false, and_self, b_X11_season, r_X11_season, Int.add_zero]
          (repeat' with_reducible first | apply And.intro | intro _)
          all_goals try omega
          all_goals exact ih (i + 1) _ σ2 (by omega) (by omega) (hf.tr (frm.i x2 (by decide) (by decide) (Or.inl rfl))) (WI_i x2 (by decide) (by rw [v2]; exact okd) hic) (MK_i x2 (by decide) (by decide) (by decide) hmk) (by omega) ht
    refine e_X11_season (Nat.le_of_ble_eq_true rfl) ?_
    simp only [wp_c, st_iload, st_lload, st_aload, st_istore, st_lstore, st_astore, st_iinc, st_sipush, st_jsr_w, st_goto, st_jsr, st_goto_w, st_if_icmp, st_ifCond, st_iadd, st_isub, st_imul, st_idiv, st_irem, st_iand, st_ior, st_ixor, st_ishl, st_ishr, st_iushr, st_ladd, st_lsub, st_lmul, st_ldiv, st_lrem, st_land, st_lor, st_lshl, st_lshr, st_i2l, st_l2i, st_i2b, st_i2s, st_i2c, st_lcmp, st_dup, st_pop, st_dup2, st_pop2, st_getfield, st_getstatic, st_checkcast, st_instanceof, st_putfield, st_putstatic, st_dstore, st_iaload, st_baload, st_laload, st_aaload, st_iastore, st_bastore, st_lastore, st_arraylength, st_dcmpg, st_dcmpl, st_fcmpg, st_fcmpl, st_monitorenter, st_tableswitch, st_multianewarray, st_invokeinterface, st_ireturn, st_lreturn, st_return_, st_ldc, st_ldc_w, st_ldc2_w, st_freturn, st_invokevirtual, st_anewarray0, st_anewarray1, st_anewarray2, st_anewarray3, st_anewarray4, st_anewarray5, st_lookupswitch, popI_c, popL_c, popR_c, popV_c, getI_c, getL_c, getR_c, lg_z, lg_s, ls1_z, ls1_o, ls1_s, ls2_z, ls2_o, ls2_s, noL_i, noL_l, noL_r, isL_i, isL_l, isL_r, tk_z, tk_s, psh_n, psh_s, ent_e, entL_n, entL_c, cc_eq, cc_ne, cc_lt, cc_ge, cc_gt, cc_le, swt_n, swt_c, lsw_n, lsw_c, mPs, NSTR_e, akds, alens, cnts, arfs, inb_e, lcm_lt, lcm_gt, lcm_ge, lcm_le, lcm_eq, lcm_a, lcm_b, Int.reduceToNat, Nat.reduceDiv, Nat.reduceMod, Nat.reduceMul, Nat.reduceAdd, Nat.reduceSub, Nat.reduceLT, Nat.reduceLeDiff, Nat.reduceEqDiff, Int.reduceNeg, Int.reduceAdd, Nat.one_mul, Nat.zero_mul, Nat.add_zero, Nat.zero_add, if_true, if_false, eq_self, true_and, and_true, true_or, or_true, false_or, or_false, List.length_cons, List.length_nil, List.cons_append, List.nil_append, List.replicate_zero, List.replicate_succ, Nat.lt_irrefl, reduceCtorEq, Bool.false_eq_true, in32, in64, Int.reduceLE, Int.reduceLT, Int.reduceEq, Int.reduceNe, not_true_eq_false, not_false_eq_true, true_implies, false_implies, implies_true, false_and, and_false, and_self, b_X11_season, r_X11_season]
    (repeat' with_reducible first | apply And.intro | intro _)
    all_goals try omega
    refine c_mark0 hi hpa (fun σ1 f1 v1 i1 m1 => ?_)
    have ex : σ1 7 0 6 = V σ 0 b 20 := by rw [← v1]; rfl
    have x2 : eqi [27, 28, 39] [7, 33, 34, 35] 0 σ1 (mu σ1 7 0 6 sd) := eqi_mu eqi.rf (by decide)
    have v2 : V (mu σ1 7 0 6 sd) 0 b = vu (V σ 0 b) 20 sd := by rw [V_18 (s := 6) (j := 20) (by decide), v1]
    have i2 : WI (mu σ1 7 0 6 sd) 0 b lw ll := WI_i x2 (by decide) (by rw [v2]; exact vu_ok hi.2.2.1 (Or.inr (Or.inr (Or.inl rfl)))) i1
    have m2 := MK_i x2 (by decide) (by decide) (by decide) m1
    simp only [wp_c, st_iload, st_lload, st_aload, st_istore, st_lstore, st_astore, st_iinc, st_sipush, st_jsr_w, st_goto, st_jsr, st_goto_w, st_if_icmp, st_ifCond, st_iadd, st_isub, st_imul, st_idiv, st_irem, st_iand, st_ior, st_ixor, st_ishl, st_ishr, st_iushr, st_ladd, st_lsub, st_lmul, st_ldiv, st_lrem, st_land, st_lor, st_lshl, st_lshr, st_i2l, st_l2i, st_i2b, st_i2s, st_i2c, st_lcmp, st_dup, st_pop, st_dup2, st_pop2, st_getfield, st_getstatic, st_checkcast, st_instanceof, st_putfield, st_putstatic, st_dstore, st_iaload, st_baload, st_laload, st_aaload, st_iastore, st_bastore, st_lastore, st_arraylength, st_dcmpg, st_dcmpl, st_fcmpg, st_fcmpl, st_monitorenter, st_tableswitch, st_multianewarray, st_invokeinterface, st_ireturn, st_lreturn, st_return_, st_ldc, st_ldc_w, st_ldc2_w, st_freturn, st_invokevirtual, st_anewarray0, st_anewarray1, st_anewarray2, st_anewarray3, st_anewarray4, st_anewarray5, st_lookupswitch, popI_c, popL_c, popR_c, popV_c, getI_c, getL_c, getR_c, lg_z, lg_s, ls1_z, ls1_o, ls1_s, ls2_z, ls2_o, ls2_s, noL_i, noL_l, noL_r, isL_i, isL_l, isL_r, tk_z, tk_s, psh_n, psh_s, ent_e, entL_n, entL_c, cc_eq, cc_ne, cc_lt, cc_ge, cc_gt, cc_le, swt_n, swt_c, lsw_n, lsw_c, mPs, NSTR_e, akds, alens, cnts, arfs, inb_e, lcm_lt, lcm_gt, lcm_ge, lcm_le, lcm_eq, lcm_a, lcm_b, Int.reduceToNat, Nat.reduceDiv, Nat.reduceMod, Nat.reduceMul, Nat.reduceAdd, Nat.reduceSub, Nat.reduceLT, Nat.reduceLeDiff, Nat.reduceEqDiff, Int.reduceNeg, Int.reduceAdd, Nat.one_mul, Nat.zero_mul, Nat.add_zero, Nat.zero_add, if_true, if_false, eq_self, true_and, and_true, true_or, or_true, false_or, or_false, List.length_cons, List.length_nil, List.cons_append, List.nil_append, List.replicate_zero, List.replicate_succ, Nat.lt_irrefl, reduceCtorEq, Bool.false_eq_true, in32, in64, Int.reduceLE, Int.reduceLT, Int.reduceEq, Int.reduceNe, not_true_eq_false, not_false_eq_true, true_implies, false_implies, implies_true, false_and, and_false, and_self, b_X11_season, r_X11_season, ex]
    (repeat' with_reducible first | apply And.intro | intro _)
    all_goals try omega
    all_goals exact H m.toNat 0 0 _ (by omega) (by omega) (f1.tr (frm.i x2 (by decide) (by decide) (Or.inl rfl))) i2 m2 (by rw [v2, vu_ne (by decide)]; omega) (by rw [v2]; exact hT)
  · have := hB c
    refine e_X11_season (Nat.le_of_ble_eq_true rfl) ?_
    simp only [wp_c, st_iload, st_lload, st_aload, st_istore, st_lstore, st_astore, st_iinc, st_sipush, st_jsr_w, st_goto, st_jsr, st_goto_w, st_if_icmp, st_ifCond, st_iadd, st_isub, st_imul, st_idiv, st_irem, st_iand, st_ior, st_ixor, st_ishl, st_ishr, st_iushr, st_ladd, st_lsub, st_lmul, st_ldiv, st_lrem, st_land, st_lor, st_lshl, st_lshr, st_i2l, st_l2i, st_i2b, st_i2s, st_i2c, st_lcmp, st_dup, st_pop, st_dup2, st_pop2, st_getfield, st_getstatic, st_checkcast, st_instanceof, st_putfield, st_putstatic, st_dstore, st_iaload, st_baload, st_laload, st_aaload, st_iastore, st_bastore, st_lastore, st_arraylength, st_dcmpg, st_dcmpl, st_fcmpg, st_fcmpl, st_monitorenter, st_tableswitch, st_multianewarray, st_invokeinterface, st_ireturn, st_lreturn, st_return_, st_ldc, st_ldc_w, st_ldc2_w, st_freturn, st_invokevirtual, st_anewarray0, st_anewarray1, st_anewarray2, st_anewarray3, st_anewarray4, st_anewarray5, st_lookupswitch, popI_c, popL_c, popR_c, popV_c, getI_c, getL_c, getR_c, lg_z, lg_s, ls1_z, ls1_o, ls1_s, ls2_z, ls2_o, ls2_s, noL_i, noL_l, noL_r, isL_i, isL_l, isL_r, tk_z, tk_s, psh_n, psh_s, ent_e, entL_n, entL_c, cc_eq, cc_ne, cc_lt, cc_ge, cc_gt, cc_le, swt_n, swt_c, lsw_n, lsw_c, mPs, NSTR_e, akds, alens, cnts, arfs, inb_e, lcm_lt, lcm_gt, lcm_ge, lcm_le, lcm_eq, lcm_a, lcm_b, Int.reduceToNat, Nat.reduceDiv, Nat.reduceMod, Nat.reduceMul, Nat.reduceAdd, Nat.reduceSub, Nat.reduceLT, Nat.reduceLeDiff, Nat.reduceEqDiff, Int.reduceNeg, Int.reduceAdd, Nat.one_mul, Nat.zero_mul, Nat.add_zero, Nat.zero_add, if_true, if_false, eq_self, true_and, and_true, true_or, or_true, false_or, or_false, List.length_cons, List.length_nil, List.cons_append, List.nil_append, List.replicate_zero, List.replicate_succ, Nat.lt_irrefl, reduceCtorEq, Bool.false_eq_true, in32, in64, Int.reduceLE, Int.reduceLT, Int.reduceEq, Int.reduceNe, not_true_eq_false, not_false_eq_true, true_implies, false_implies, implies_true, false_and, and_false, and_self, b_X11_season, r_X11_season]
    (repeat' with_reducible first | apply And.intro | intro _)
    all_goals try omega
    all_goals exact this
end SEASON
