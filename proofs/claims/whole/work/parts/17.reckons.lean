/-! 17: the reference reckons a law -/
theorem rpr_mu {σ : Mem} {Kd i L : Nat} {x : Int} {st : List Int} (hL : L = st.length) (h : rpr (σ Kd i) st) : rpr (mu σ Kd i L x Kd i) (x :: st) := by
  subst hL
  have e : mu σ Kd i st.length x Kd i = fun k => if k = st.length then x else σ Kd i k := by
    funext k
    exact mu_at
  rw [e]
  exact rpr_push h
section REF3
variable {d : Nat} {σ : Mem} {K : Option AV → Mem → Prop}
theorem q_reckons {law p : Int} {cs : List Int} {ty : Bool} {ws : Nat → Int} {F : Int} (hl : law = 0 ∨ law = 1) (ho : OkA (σ 44 0)) (hmany : σ 44 0 (8 + law).toNat = cs.length) (hF : σ 44 0 (6 + law).toNat = F) (hfrom : 0 ≤ F ∧ F + cs.length ≤ 900)
    (hcs : ∀ (i : Nat) (c : Int), cs[i]? = some c → σ 44 0 (614 + F + i).toNat = c) (ht : trun cs [] = some [ty]) (hw : ∀ i : Nat, i < 9 → (1000 + (i : Int)) ∈ cs → ws i = if i = 0 then p else if i = 1 then (σ 44 0 18).tmod 7 else if i = 2 then σ 44 0 19 else σ 49 0 i) (hb : ∀ c ∈ cs, wbd ws c)
    (hK : ∀ σ', eqx [48, 49] σ σ' → K (some (.inl (lval ws cs))) σ') : Ev (d + 2) 195 [mo, .inl law, .inl p] σ K := by
  have hday := ho.day
  have H : ∀ (cs' : List Int) (st : List Int) (tys : List Bool) (k : Nat) (x : AV) (n kz : Int) (σc : Mem), n = st.length → kz = k → isL x = false → eqx [48, 49] σ σc → (∀ i : Nat, i < 9 → (1000 + (i : Int)) ∈ cs → σc 49 0 i = ws i) → rpr (σc 48 0) st → tyd st tys → tys.length ≤ 60 → trun cs' tys = some [ty] → k + cs'.length = cs.length → (∀ (i : Nat) (c : Int), cs'[i]? = some c → cs[k + i]? = some c) → (∀ c ∈ cs', c ∈ cs) → lrun ws cs' st = lrun ws cs [] →
      Rn (d + 2) 195 41 [mo, .inl law, .inl p, .inl n, .inl kz, x] [] σc K := by
    intro cs'
    induction cs' with
    | nil =>
      intro st tys k x n kz σc hn hkz hx he hww hr hty hlen htr hk hg hin hv
      have e44 := he 44 (by decide)
      simp only [List.length_nil] at hk
      have htr : tys = [ty] := Option.some.inj htr
      subst htr
      obtain ⟨v, s, rfl, h1, h2⟩ := tyd_1 hty
      cases s with
      | cons a b => exact h2.elim
      | nil =>
      have hv0 : σc 48 0 0 = v := hr.1
      have hlv : lval ws cs = v := by
        unfold lval
        rw [← hv]
        rfl
      refine l_X12_reckons_41 ?_
      simp only [wp_c, st_iload, st_lload, st_aload, st_istore, st_lstore, st_astore, st_iinc, st_sipush, st_jsr_w, st_goto, st_jsr, st_goto_w, st_if_icmp, st_ifCond, st_iadd, st_isub, st_imul, st_idiv, st_irem, st_iand, st_ior, st_ixor, st_ishl, st_ishr, st_iushr, st_ladd, st_lsub, st_lmul, st_ldiv, st_lrem, st_land, st_lor, st_lshl, st_lshr, st_i2l, st_l2i, st_i2b, st_i2s, st_i2c, st_lcmp, st_dup, st_pop, st_dup2, st_pop2, st_getfield, st_getstatic, st_checkcast, st_instanceof, st_putfield, st_putstatic, st_dstore, st_iaload, st_baload, st_laload, st_aaload, st_iastore, st_bastore, st_lastore, st_arraylength, st_dcmpg, st_dcmpl, st_fcmpg, st_fcmpl, st_monitorenter, st_tableswitch, st_multianewarray, st_invokeinterface, st_ireturn, st_lreturn, st_return_, st_ldc, st_ldc_w, st_ldc2_w, st_freturn, st_invokevirtual, st_anewarray0, st_anewarray1, st_anewarray2, st_anewarray3, st_anewarray4, st_anewarray5, st_lookupswitch, popI_c, popL_c, popR_c, popV_c, getI_c, getL_c, getR_c, lg_z, lg_s, ls1_z, ls1_o, ls1_s, ls2_z, ls2_o, ls2_s, noL_i, noL_l, noL_r, isL_i, isL_l, isL_r, tk_z, tk_s, psh_n, psh_s, ent_e, entL_n, entL_c, cc_eq, cc_ne, cc_lt, cc_ge, cc_gt, cc_le, swt_n, swt_c, lsw_n, lsw_c, mPs, NSTR_e, akds, alens, cnts, arfs, inb_e, lcm_lt, lcm_gt, lcm_ge, lcm_le, lcm_eq, lcm_a, lcm_b, Int.reduceToNat, Nat.reduceDiv, Nat.reduceMod, Nat.reduceMul, Nat.reduceAdd, Nat.reduceSub, Nat.reduceLT, Nat.reduceLeDiff, Nat.reduceEqDiff, Int.reduceNeg, Int.reduceAdd, Nat.one_mul, Nat.zero_mul, Nat.add_zero, Nat.zero_add, if_true, if_false, eq_self, true_and, and_true, true_or, or_true, false_or, or_false, List.length_cons, List.length_nil, List.cons_append, List.nil_append, List.replicate_zero, List.replicate_succ, Nat.lt_irrefl, reduceCtorEq, Bool.false_eq_true, in32, in64, Int.reduceLE, Int.reduceLT, Int.reduceEq, Int.reduceNe, not_true_eq_false, not_false_eq_true, true_implies, false_implies, implies_true, false_and, and_false, and_self, b_X12_reckons, r_X12_reckons, h_X12_reckons_41, e44, hmany, hv0]
      (repeat' with_reducible first | apply And.intro | intro _)
      all_goals try omega
      all_goals rcases hl with rfl | rfl
      all_goals try omega
      all_goals (rw [← hlv]; exact hK _ he)
    | cons c cs' ih =>
      intro st tys k x n kz σc hn hkz hx he hww hr hty hlen htr hk hg hin hv
      have e44 := he 44 (by decide)
      simp only [List.length_cons] at hk
      have hc : σ 44 0 (614 + F + kz).toNat = c := by
        rw [hkz]
        exact hcs k c (by have := hg 0 c rfl; simpa using this)
      simp only [trun] at htr
      cases hts : tstep c tys with
      | none => rw [hts] at htr; cases htr
      | some tys' =>
      rw [hts] at htr
      have hty' := tyd_step (hb c (hin c List.mem_cons_self)) hty hts
      have hin' : ∀ c ∈ cs', c ∈ cs := fun c' h => hin c' (List.mem_cons_of_mem _ h)
      have hlst := tyd_len hty
      have hg' : ∀ (i : Nat) (c' : Int), cs'[i]? = some c' → cs[k + 1 + i]? = some c' := fun i c' h => by
        have := hg (i + 1) c' (by simpa using h)
        rw [show k + 1 + i = k + (i + 1) by omega]
        exact this
      have hv' : lrun ws cs' (lstep ws c st) = lrun ws cs [] := hv
      rcases tstep_cases hts with ⟨h1, h2, h3, rfl⟩ | ⟨rfl, r, rfl, rfl⟩ | h4
      · refine l_X12_reckons_41 ?_
        simp only [wp_c, st_iload, st_lload, st_aload, st_istore, st_lstore, st_astore, st_iinc, st_sipush, st_jsr_w, st_goto, st_jsr, st_goto_w, st_if_icmp, st_ifCond, st_iadd, st_isub, st_imul, st_idiv, st_irem, st_iand, st_ior, st_ixor, st_ishl, st_ishr, st_iushr, st_ladd, st_lsub, st_lmul, st_ldiv, st_lrem, st_land, st_lor, st_lshl, st_lshr, st_i2l, st_l2i, st_i2b, st_i2s, st_i2c, st_lcmp, st_dup, st_pop, st_dup2, st_pop2, st_getfield, st_getstatic, st_checkcast, st_instanceof, st_putfield, st_putstatic, st_dstore, st_iaload, st_baload, st_laload, st_aaload, st_iastore, st_bastore, st_lastore, st_arraylength, st_dcmpg, st_dcmpl, st_fcmpg, st_fcmpl, st_monitorenter, st_tableswitch, st_multianewarray, st_invokeinterface, st_ireturn, st_lreturn, st_return_, st_ldc, st_ldc_w, st_ldc2_w, st_freturn, st_invokevirtual, st_anewarray0, st_anewarray1, st_anewarray2, st_anewarray3, st_anewarray4, st_anewarray5, st_lookupswitch, popI_c, popL_c, popR_c, popV_c, getI_c, getL_c, getR_c, lg_z, lg_s, ls1_z, ls1_o, ls1_s, ls2_z, ls2_o, ls2_s, noL_i, noL_l, noL_r, isL_i, isL_l, isL_r, tk_z, tk_s, psh_n, psh_s, ent_e, entL_n, entL_c, cc_eq, cc_ne, cc_lt, cc_ge, cc_gt, cc_le, swt_n, swt_c, lsw_n, lsw_c, mPs, NSTR_e, akds, alens, cnts, arfs, inb_e, lcm_lt, lcm_gt, lcm_ge, lcm_le, lcm_eq, lcm_a, lcm_b, Int.reduceToNat, Nat.reduceDiv, Nat.reduceMod, Nat.reduceMul, Nat.reduceAdd, Nat.reduceSub, Nat.reduceLT, Nat.reduceLeDiff, Nat.reduceEqDiff, Int.reduceNeg, Int.reduceAdd, Nat.one_mul, Nat.zero_mul, Nat.add_zero, Nat.zero_add, if_true, if_false, eq_self, true_and, and_true, true_or, or_true, false_or, or_false, List.length_cons, List.length_nil, List.cons_append, List.nil_append, List.replicate_zero, List.replicate_succ, Nat.lt_irrefl, reduceCtorEq, Bool.false_eq_true, in32, in64, Int.reduceLE, Int.reduceLT, Int.reduceEq, Int.reduceNe, not_true_eq_false, not_false_eq_true, true_implies, false_implies, implies_true, false_and, and_false, and_self, b_X12_reckons, r_X12_reckons, h_X12_reckons_41, e44, hmany, hF, hc]
        (repeat' with_reducible first | apply And.intro | intro _)
        all_goals try omega
        · have e : lstep ws c st = ws (c - 1000).toNat :: st := by
            unfold lstep
            rw [if_neg (by omega), if_pos (by omega)]
          rw [e] at hv' hty'
          rw [hww _ (by omega) (by have := hin c List.mem_cons_self; rw [show 1000 + (((c - 1000).toNat : Nat) : Int) = c by omega]; exact this)]
          exact ih (ws (c - 1000).toNat :: st) _ (k + 1) _ _ _ _ (by simp; omega) (by omega) rfl (eqx_mu he (by decide)) (fun i hi hm => by rw [mu_k (by decide)]; exact hww i hi hm) (rpr_mu (by omega) hr) hty' (by simp; omega) htr (by omega) hg' hin' hv'
        · have e : lstep ws c st = c :: st := by
            unfold lstep
            rw [if_pos (by omega)]
          rw [e] at hv' hty'
          exact ih (c :: st) _ (k + 1) _ _ _ _ (by simp; omega) (by omega) rfl (eqx_mu he (by decide)) (fun i hi hm => by rw [mu_k (by decide)]; exact hww i hi hm) (rpr_mu (by omega) hr) hty' (by simp; omega) htr (by omega) hg' hin' hv'
      · obtain ⟨v, s, rfl, g1, g2⟩ := tyd_1 hty
        simp only [List.length_cons] at hn hlst hlen
        have hv0 : σc 48 0 (n - 1).toNat = v := by
          rw [show (n - 1).toNat = s.length by omega]
          exact hr.1
        refine l_X12_reckons_41 ?_
        simp only [wp_c, st_iload, st_lload, st_aload, st_istore, st_lstore, st_astore, st_iinc, st_sipush, st_jsr_w, st_goto, st_jsr, st_goto_w, st_if_icmp, st_ifCond, st_iadd, st_isub, st_imul, st_idiv, st_irem, st_iand, st_ior, st_ixor, st_ishl, st_ishr, st_iushr, st_ladd, st_lsub, st_lmul, st_ldiv, st_lrem, st_land, st_lor, st_lshl, st_lshr, st_i2l, st_l2i, st_i2b, st_i2s, st_i2c, st_lcmp, st_dup, st_pop, st_dup2, st_pop2, st_getfield, st_getstatic, st_checkcast, st_instanceof, st_putfield, st_putstatic, st_dstore, st_iaload, st_baload, st_laload, st_aaload, st_iastore, st_bastore, st_lastore, st_arraylength, st_dcmpg, st_dcmpl, st_fcmpg, st_fcmpl, st_monitorenter, st_tableswitch, st_multianewarray, st_invokeinterface, st_ireturn, st_lreturn, st_return_, st_ldc, st_ldc_w, st_ldc2_w, st_freturn, st_invokevirtual, st_anewarray0, st_anewarray1, st_anewarray2, st_anewarray3, st_anewarray4, st_anewarray5, st_lookupswitch, popI_c, popL_c, popR_c, popV_c, getI_c, getL_c, getR_c, lg_z, lg_s, ls1_z, ls1_o, ls1_s, ls2_z, ls2_o, ls2_s, noL_i, noL_l, noL_r, isL_i, isL_l, isL_r, tk_z, tk_s, psh_n, psh_s, ent_e, entL_n, entL_c, cc_eq, cc_ne, cc_lt, cc_ge, cc_gt, cc_le, swt_n, swt_c, lsw_n, lsw_c, mPs, NSTR_e, akds, alens, cnts, arfs, inb_e, lcm_lt, lcm_gt, lcm_ge, lcm_le, lcm_eq, lcm_a, lcm_b, Int.reduceToNat, Nat.reduceDiv, Nat.reduceMod, Nat.reduceMul, Nat.reduceAdd, Nat.reduceSub, Nat.reduceLT, Nat.reduceLeDiff, Nat.reduceEqDiff, Int.reduceNeg, Int.reduceAdd, Nat.one_mul, Nat.zero_mul, Nat.add_zero, Nat.zero_add, if_true, if_false, eq_self, true_and, and_true, true_or, or_true, false_or, or_false, List.length_cons, List.length_nil, List.cons_append, List.nil_append, List.replicate_zero, List.replicate_succ, Nat.lt_irrefl, reduceCtorEq, Bool.false_eq_true, in32, in64, Int.reduceLE, Int.reduceLT, Int.reduceEq, Int.reduceNe, not_true_eq_false, not_false_eq_true, true_implies, false_implies, implies_true, false_and, and_false, and_self, b_X12_reckons, r_X12_reckons, h_X12_reckons_41, e44, hmany, hF, hc, hv0]
        (repeat' with_reducible first | apply And.intro | intro _)
        all_goals try omega
        exact ih ((1 - v) :: s) _ (k + 1) _ _ _ _ (by simp; omega) (by omega) rfl (eqx_mu he (by decide)) (fun i hi hm => by rw [mu_k (by decide)]; exact hww i hi hm) (rpr_mu (by omega) hr.2) hty' (by simp; omega) htr (by omega) hg' hin' hv'
      · have h5 : ∃ b1 b2 b3 r, tys = b1 :: b1 :: r ∧ tys' = b3 :: r ∧ b2 = b1 ∧ 3000 ≤ c ∧ c ≤ 3008 ∧ ¬ c = 3006 := by
          rcases h4 with ⟨h1, r, rfl, rfl⟩ | ⟨h1, r, rfl, rfl⟩ | ⟨h1, r, rfl, rfl⟩
          · exact ⟨true, true, true, r, rfl, rfl, rfl, by omega, by omega, by omega⟩
          · exact ⟨false, false, true, r, rfl, rfl, rfl, by omega, by omega, by omega⟩
          · exact ⟨false, false, false, r, rfl, rfl, rfl, by omega, by omega, by omega⟩
        obtain ⟨b1, -, b3, r, rfl, rfl, -, c1, c2, c3⟩ := h5
        obtain ⟨v, w, s, rfl, g1, g2, g3⟩ := tyd_2 hty
        simp only [List.length_cons] at hn hlst hlen
        have bb : ∀ {x : Int}, (if b1 = true then x = 0 ∨ x = 1 else -1000000 ≤ x ∧ x ≤ 1000000) → -1000000 ≤ x ∧ x ≤ 1000000 := fun {x} h => by
          split at h
          · omega
          · exact h
        have gv := bb g1
        have gw := bb g2
        have hv0 : σc 48 0 (n + -1).toNat = v := by
          rw [show (n + -1).toNat = s.length + 1 by omega]
          exact hr.1
        have hw0 : σc 48 0 (n + -1 - 1).toNat = w := by
          rw [show (n + -1 - 1).toNat = s.length by omega]
          exact hr.2.1
        have e : lstep ws c (v :: w :: s) = btw c w v :: s := by
          unfold lstep
          rw [if_neg (by omega), if_neg (by omega), if_neg (by omega)]
        rw [e] at hv' hty'
        refine l_X12_reckons_41 ?_
        simp only [wp_c, st_iload, st_lload, st_aload, st_istore, st_lstore, st_astore, st_iinc, st_sipush, st_jsr_w, st_goto, st_jsr, st_goto_w, st_if_icmp, st_ifCond, st_iadd, st_isub, st_imul, st_idiv, st_irem, st_iand, st_ior, st_ixor, st_ishl, st_ishr, st_iushr, st_ladd, st_lsub, st_lmul, st_ldiv, st_lrem, st_land, st_lor, st_lshl, st_lshr, st_i2l, st_l2i, st_i2b, st_i2s, st_i2c, st_lcmp, st_dup, st_pop, st_dup2, st_pop2, st_getfield, st_getstatic, st_checkcast, st_instanceof, st_putfield, st_putstatic, st_dstore, st_iaload, st_baload, st_laload, st_aaload, st_iastore, st_bastore, st_lastore, st_arraylength, st_dcmpg, st_dcmpl, st_fcmpg, st_fcmpl, st_monitorenter, st_tableswitch, st_multianewarray, st_invokeinterface, st_ireturn, st_lreturn, st_return_, st_ldc, st_ldc_w, st_ldc2_w, st_freturn, st_invokevirtual, st_anewarray0, st_anewarray1, st_anewarray2, st_anewarray3, st_anewarray4, st_anewarray5, st_lookupswitch, popI_c, popL_c, popR_c, popV_c, getI_c, getL_c, getR_c, lg_z, lg_s, ls1_z, ls1_o, ls1_s, ls2_z, ls2_o, ls2_s, noL_i, noL_l, noL_r, isL_i, isL_l, isL_r, tk_z, tk_s, psh_n, psh_s, ent_e, entL_n, entL_c, cc_eq, cc_ne, cc_lt, cc_ge, cc_gt, cc_le, swt_n, swt_c, lsw_n, lsw_c, mPs, NSTR_e, akds, alens, cnts, arfs, inb_e, lcm_lt, lcm_gt, lcm_ge, lcm_le, lcm_eq, lcm_a, lcm_b, Int.reduceToNat, Nat.reduceDiv, Nat.reduceMod, Nat.reduceMul, Nat.reduceAdd, Nat.reduceSub, Nat.reduceLT, Nat.reduceLeDiff, Nat.reduceEqDiff, Int.reduceNeg, Int.reduceAdd, Nat.one_mul, Nat.zero_mul, Nat.add_zero, Nat.zero_add, if_true, if_false, eq_self, true_and, and_true, true_or, or_true, false_or, or_false, List.length_cons, List.length_nil, List.cons_append, List.nil_append, List.replicate_zero, List.replicate_succ, Nat.lt_irrefl, reduceCtorEq, Bool.false_eq_true, in32, in64, Int.reduceLE, Int.reduceLT, Int.reduceEq, Int.reduceNe, not_true_eq_false, not_false_eq_true, true_implies, false_implies, implies_true, false_and, and_false, and_self, b_X12_reckons, r_X12_reckons, h_X12_reckons_41, e44, hmany, hF, hc, hv0, hw0]
        (repeat' with_reducible first | apply And.intro | intro _)
        all_goals try omega
        refine q_between ⟨c1, c2⟩ gw gv ?_
        simp only [wp_c, st_iload, st_lload, st_aload, st_istore, st_lstore, st_astore, st_iinc, st_sipush, st_jsr_w, st_goto, st_jsr, st_goto_w, st_if_icmp, st_ifCond, st_iadd, st_isub, st_imul, st_idiv, st_irem, st_iand, st_ior, st_ixor, st_ishl, st_ishr, st_iushr, st_ladd, st_lsub, st_lmul, st_ldiv, st_lrem, st_land, st_lor, st_lshl, st_lshr, st_i2l, st_l2i, st_i2b, st_i2s, st_i2c, st_lcmp, st_dup, st_pop, st_dup2, st_pop2, st_getfield, st_getstatic, st_checkcast, st_instanceof, st_putfield, st_putstatic, st_dstore, st_iaload, st_baload, st_laload, st_aaload, st_iastore, st_bastore, st_lastore, st_arraylength, st_dcmpg, st_dcmpl, st_fcmpg, st_fcmpl, st_monitorenter, st_tableswitch, st_multianewarray, st_invokeinterface, st_ireturn, st_lreturn, st_return_, st_ldc, st_ldc_w, st_ldc2_w, st_freturn, st_invokevirtual, st_anewarray0, st_anewarray1, st_anewarray2, st_anewarray3, st_anewarray4, st_anewarray5, st_lookupswitch, popI_c, popL_c, popR_c, popV_c, getI_c, getL_c, getR_c, lg_z, lg_s, ls1_z, ls1_o, ls1_s, ls2_z, ls2_o, ls2_s, noL_i, noL_l, noL_r, isL_i, isL_l, isL_r, tk_z, tk_s, psh_n, psh_s, ent_e, entL_n, entL_c, cc_eq, cc_ne, cc_lt, cc_ge, cc_gt, cc_le, swt_n, swt_c, lsw_n, lsw_c, mPs, NSTR_e, akds, alens, cnts, arfs, inb_e, lcm_lt, lcm_gt, lcm_ge, lcm_le, lcm_eq, lcm_a, lcm_b, Int.reduceToNat, Nat.reduceDiv, Nat.reduceMod, Nat.reduceMul, Nat.reduceAdd, Nat.reduceSub, Nat.reduceLT, Nat.reduceLeDiff, Nat.reduceEqDiff, Int.reduceNeg, Int.reduceAdd, Nat.one_mul, Nat.zero_mul, Nat.add_zero, Nat.zero_add, if_true, if_false, eq_self, true_and, and_true, true_or, or_true, false_or, or_false, List.length_cons, List.length_nil, List.cons_append, List.nil_append, List.replicate_zero, List.replicate_succ, Nat.lt_irrefl, reduceCtorEq, Bool.false_eq_true, in32, in64, Int.reduceLE, Int.reduceLT, Int.reduceEq, Int.reduceNe, not_true_eq_false, not_false_eq_true, true_implies, false_implies, implies_true, false_and, and_false, and_self, b_X12_reckons, r_X12_reckons]
        (repeat' with_reducible first | apply And.intro | intro _)
        all_goals try omega
        exact ih (btw c w v :: s) _ (k + 1) _ _ _ _ (by simp; omega) (by omega) rfl (eqx_mu he (by decide)) (fun i hi hm => by rw [mu_k (by decide)]; exact hww i hi hm) (rpr_mu (by omega) hr.2.2) hty' (by simp; omega) htr (by omega) hg' hin' hv'
  refine e_X12_reckons (Nat.le_of_ble_eq_true rfl) ?_
  simp only [wp_c, st_iload, st_lload, st_aload, st_istore, st_lstore, st_astore, st_iinc, st_sipush, st_jsr_w, st_goto, st_jsr, st_goto_w, st_if_icmp, st_ifCond, st_iadd, st_isub, st_imul, st_idiv, st_irem, st_iand, st_ior, st_ixor, st_ishl, st_ishr, st_iushr, st_ladd, st_lsub, st_lmul, st_ldiv, st_lrem, st_land, st_lor, st_lshl, st_lshr, st_i2l, st_l2i, st_i2b, st_i2s, st_i2c, st_lcmp, st_dup, st_pop, st_dup2, st_pop2, st_getfield, st_getstatic, st_checkcast, st_instanceof, st_putfield, st_putstatic, st_dstore, st_iaload, st_baload, st_laload, st_aaload, st_iastore, st_bastore, st_lastore, st_arraylength, st_dcmpg, st_dcmpl, st_fcmpg, st_fcmpl, st_monitorenter, st_tableswitch, st_multianewarray, st_invokeinterface, st_ireturn, st_lreturn, st_return_, st_ldc, st_ldc_w, st_ldc2_w, st_freturn, st_invokevirtual, st_anewarray0, st_anewarray1, st_anewarray2, st_anewarray3, st_anewarray4, st_anewarray5, st_lookupswitch, popI_c, popL_c, popR_c, popV_c, getI_c, getL_c, getR_c, lg_z, lg_s, ls1_z, ls1_o, ls1_s, ls2_z, ls2_o, ls2_s, noL_i, noL_l, noL_r, isL_i, isL_l, isL_r, tk_z, tk_s, psh_n, psh_s, ent_e, entL_n, entL_c, cc_eq, cc_ne, cc_lt, cc_ge, cc_gt, cc_le, swt_n, swt_c, lsw_n, lsw_c, mPs, NSTR_e, akds, alens, cnts, arfs, inb_e, lcm_lt, lcm_gt, lcm_ge, lcm_le, lcm_eq, lcm_a, lcm_b, Int.reduceToNat, Nat.reduceDiv, Nat.reduceMod, Nat.reduceMul, Nat.reduceAdd, Nat.reduceSub, Nat.reduceLT, Nat.reduceLeDiff, Nat.reduceEqDiff, Int.reduceNeg, Int.reduceAdd, Nat.one_mul, Nat.zero_mul, Nat.add_zero, Nat.zero_add, if_true, if_false, eq_self, true_and, and_true, true_or, or_true, false_or, or_false, List.length_cons, List.length_nil, List.cons_append, List.nil_append, List.replicate_zero, List.replicate_succ, Nat.lt_irrefl, reduceCtorEq, Bool.false_eq_true, in32, in64, Int.reduceLE, Int.reduceLT, Int.reduceEq, Int.reduceNe, not_true_eq_false, not_false_eq_true, true_implies, false_implies, implies_true, false_and, and_false, and_self, b_X12_reckons, r_X12_reckons, mu_k]
  (repeat' with_reducible first | apply And.intro | intro _)
  all_goals try omega
  refine H cs [] [] 0 _ _ _ _ rfl rfl rfl (eqx_mu (eqx_mu (eqx_mu eqx.rf (by decide)) (by decide)) (by decide)) (fun i hi hm => ?_) trivial trivial (by decide) ht (by simp) (fun i c h => by simpa using h) (fun _ h => h) rfl
  rw [hw i hi hm]
  simp only [mu_at]
  by_cases e2 : i = 2
  · subst e2; rfl
  · by_cases e1 : i = 1
    · subst e1; rfl
    · by_cases e0 : i = 0
      · subst e0; rfl
      · simp [e0, e1, e2]
end REF3
