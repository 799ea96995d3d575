/-! 97: the class: settles -/
section SETTLEC
variable {d : Nat} {σ : Mem} {a b : BV} {lw ll : List Int} {K : Option AV → Mem → Prop}
theorem imax_s {x y : Int} : (x ≤ imax x y ∧ y ≤ imax x y) ∧ (imax x y = x ∨ imax x y = y) := by
  unfold imax
  split <;> omega
theorem c_mostGroups {mask : Int} {c : Nat} {nets : Nat → Int} {G : Int → Int} (hc : c ≤ 6) (hm : 0 ≤ mask ∧ mask < 64) (hn : ∀ i, i < c → σ 18 0 i = nets i ∧ -594 ≤ nets i ∧ nets i ≤ 594) (hg : ∀ m' : Int, 0 ≤ m' → m' < mask → σ 19 0 m'.toNat = G m' ∧ 0 ≤ G m' ∧ G m' ≤ 64) (hK : ∀ best : Int, 0 ≤ best ∧ best ≤ 64 → (∀ i : Nat, i < c → bz mask i = true → G (mask - 2 ^ i) ≤ best) → (best = 0 ∨ ∃ i : Nat, i < c ∧ bz mask i = true ∧ best = G (mask - 2 ^ i)) → K (some (.inl (best + (if sm nets (bz mask) c = 0 then 1 else 0)))) σ) : Ev (d + 1) 16 [.inr (.inr (some (1, 0))), .inl mask, .inl (c : Int)] σ K := by
  refine e_X1_mostGroups (Nat.le_of_ble_eq_true rfl) ?_
  simp only [wp_c, st_iload, st_lload, st_aload, st_istore, st_lstore, st_astore, st_iinc, st_sipush, st_jsr_w, st_goto, st_jsr, st_goto_w, st_if_icmp, st_ifCond, st_iadd, st_isub, st_imul, st_idiv, st_irem, st_iand, st_ior, st_ixor, st_ishl, st_ishr, st_iushr, st_ladd, st_lsub, st_lmul, st_ldiv, st_lrem, st_land, st_lor, st_lshl, st_lshr, st_i2l, st_l2i, st_i2b, st_i2s, st_i2c, st_lcmp, st_dup, st_pop, st_dup2, st_pop2, st_getfield, st_getstatic, st_checkcast, st_instanceof, st_putfield, st_putstatic, st_dstore, st_iaload, st_baload, st_laload, st_aaload, st_iastore, st_bastore, st_lastore, st_arraylength, st_dcmpg, st_dcmpl, st_fcmpg, st_fcmpl, st_monitorenter, st_tableswitch, st_multianewarray, st_invokeinterface, st_ireturn, st_lreturn, st_return_, st_ldc, st_ldc_w, st_ldc2_w, st_freturn, st_invokevirtual, st_anewarray0, st_anewarray1, st_anewarray2, st_anewarray3, st_anewarray4, st_anewarray5, st_lookupswitch, popI_c, popL_c, popR_c, popV_c, getI_c, getL_c, getR_c, lg_z, lg_s, ls1_z, ls1_o, ls1_s, ls2_z, ls2_o, ls2_s, noL_i, noL_l, noL_r, isL_i, isL_l, isL_r, tk_z, tk_s, psh_n, psh_s, ent_e, entL_n, entL_c, cc_eq, cc_ne, cc_lt, cc_ge, cc_gt, cc_le, swt_n, swt_c, lsw_n, lsw_c, mPs, NSTR_e, akds, alens, cnts, arfs, inb_e, lcm_lt, lcm_gt, lcm_ge, lcm_le, lcm_eq, lcm_a, lcm_b, Int.reduceToNat, Nat.reduceDiv, Nat.reduceMod, Nat.reduceMul, Nat.reduceAdd, Nat.reduceSub, Nat.reduceLT, Nat.reduceLeDiff, Nat.reduceEqDiff, Int.reduceNeg, Int.reduceAdd, Nat.one_mul, Nat.zero_mul, Nat.add_zero, Nat.zero_add, if_true, if_false, eq_self, true_and, and_true, true_or, or_true, false_or, or_false, List.length_cons, List.length_nil, List.cons_append, List.nil_append, List.replicate_zero, List.replicate_succ, Nat.lt_irrefl, reduceCtorEq, Bool.false_eq_true, in32, in64, Int.reduceLE, Int.reduceLT, Int.reduceEq, Int.reduceNe, not_true_eq_false, not_false_eq_true, true_implies, false_implies, implies_true, false_and, and_false, and_self, b_X1_mostGroups, r_X1_mostGroups]
  refine loop_up (S := Int × Int) (I := fun z s => 0 ≤ z ∧ s.2 = sm nets (bz mask) z.toNat ∧ (0 ≤ s.1 ∧ s.1 ≤ 64) ∧ (∀ i : Nat, (i : Int) < z → bz mask i = true → G (mask - 2 ^ i) ≤ s.1) ∧ (s.1 = 0 ∨ ∃ i : Nat, (i : Int) < z ∧ bz mask i = true ∧ s.1 = G (mask - 2 ^ i))) (G := fun z s => Rn (d + 1) 16 8 [.inr (.inr (some (1, 0))), .inl mask, .inl (c : Int), .inl s.1, .inl s.2, .inl z] [] σ K) (P := c) ?_ ?_ 0 (0, 0) (by omega) ⟨Int.le_refl _, rfl, ⟨by decide, by decide⟩, fun i h => by omega, Or.inl rfl⟩
  · rintro ⟨best, su⟩ ⟨h1, h2, h3, h4, h5⟩
    have h2 : su = sm nets (bz mask) ((c : Int)).toNat := h2
    have h3 : 0 ≤ best ∧ best ≤ 64 := h3
    rw [Int.toNat_natCast] at h2
    have sb := sm_b (n := nets) (S := bz mask) (B := 594) (by decide) c (fun i hi => (hn i hi).2)
    rw [← h2] at sb
    have fin := hK best h3 (fun i hi => h4 i (by omega)) (by
      rcases h5 with h | ⟨i, x, y⟩
      · exact Or.inl h
      · exact Or.inr ⟨i, by omega, y⟩)
    rw [← h2] at fin
    refine l_X1_mostGroups_8 ?_
    simp only [wp_c, st_iload, st_lload, st_aload, st_istore, st_lstore, st_astore, st_iinc, st_sipush, st_jsr_w, st_goto, st_jsr, st_goto_w, st_if_icmp, st_ifCond, st_iadd, st_isub, st_imul, st_idiv, st_irem, st_iand, st_ior, st_ixor, st_ishl, st_ishr, st_iushr, st_ladd, st_lsub, st_lmul, st_ldiv, st_lrem, st_land, st_lor, st_lshl, st_lshr, st_i2l, st_l2i, st_i2b, st_i2s, st_i2c, st_lcmp, st_dup, st_pop, st_dup2, st_pop2, st_getfield, st_getstatic, st_checkcast, st_instanceof, st_putfield, st_putstatic, st_dstore, st_iaload, st_baload, st_laload, st_aaload, st_iastore, st_bastore, st_lastore, st_arraylength, st_dcmpg, st_dcmpl, st_fcmpg, st_fcmpl, st_monitorenter, st_tableswitch, st_multianewarray, st_invokeinterface, st_ireturn, st_lreturn, st_return_, st_ldc, st_ldc_w, st_ldc2_w, st_freturn, st_invokevirtual, st_anewarray0, st_anewarray1, st_anewarray2, st_anewarray3, st_anewarray4, st_anewarray5, st_lookupswitch, popI_c, popL_c, popR_c, popV_c, getI_c, getL_c, getR_c, lg_z, lg_s, ls1_z, ls1_o, ls1_s, ls2_z, ls2_o, ls2_s, noL_i, noL_l, noL_r, isL_i, isL_l, isL_r, tk_z, tk_s, psh_n, psh_s, ent_e, entL_n, entL_c, cc_eq, cc_ne, cc_lt, cc_ge, cc_gt, cc_le, swt_n, swt_c, lsw_n, lsw_c, mPs, NSTR_e, akds, alens, cnts, arfs, inb_e, lcm_lt, lcm_gt, lcm_ge, lcm_le, lcm_eq, lcm_a, lcm_b, Int.reduceToNat, Nat.reduceDiv, Nat.reduceMod, Nat.reduceMul, Nat.reduceAdd, Nat.reduceSub, Nat.reduceLT, Nat.reduceLeDiff, Nat.reduceEqDiff, Int.reduceNeg, Int.reduceAdd, Nat.one_mul, Nat.zero_mul, Nat.add_zero, Nat.zero_add, if_true, if_false, eq_self, true_and, and_true, true_or, or_true, false_or, or_false, List.length_cons, List.length_nil, List.cons_append, List.nil_append, List.replicate_zero, List.replicate_succ, Nat.lt_irrefl, reduceCtorEq, Bool.false_eq_true, in32, in64, Int.reduceLE, Int.reduceLT, Int.reduceEq, Int.reduceNe, not_true_eq_false, not_false_eq_true, true_implies, false_implies, implies_true, false_and, and_false, and_self, b_X1_mostGroups, r_X1_mostGroups, h_X1_mostGroups_8]
    (repeat' with_reducible first | apply And.intro | intro _)
    all_goals try omega
    · rw [if_neg (by omega), Int.add_zero] at fin
      exact fin
    · rw [if_pos (by omega)] at fin
      exact fin
  · rintro z ⟨best, su⟩ hz ⟨h1, h2, h3, h4, h5⟩ ih
    have h2 : su = sm nets (bz mask) z.toNat := h2
    have h3 : 0 ≤ best ∧ best ≤ 64 := h3
    have h4 : ∀ i : Nat, (i : Int) < z → bz mask i = true → G (mask - 2 ^ i) ≤ best := h4
    have h5 : best = 0 ∨ ∃ i : Nat, (i : Int) < z ∧ bz mask i = true ∧ best = G (mask - 2 ^ i) := h5
    have ez : ((z.toNat : Nat) : Int) = z := by omega
    have s1 : ishr mask z = mask / 2 ^ z.toNat := by
      have := ishr_n (a := mask) (k := z.toNat) ⟨by omega, by omega⟩ (by omega)
      rw [ez] at this
      exact this
    have g0 : 0 ≤ mask / 2 ^ z.toNat := Int.ediv_nonneg hm.1 (Int.le_of_lt (Int.pow_pos (by decide)))
    have g1 : mask / 2 ^ z.toNat ≤ mask := Int.ediv_le_self _ hm.1
    have s2 : iand (mask / 2 ^ z.toNat) 1 = mask / 2 ^ z.toNat % 2 := iand_1 ⟨by omega, by omega⟩
    have st : sm nets (bz mask) (z + 1).toNat = sm nets (bz mask) z.toNat + (if bz mask z.toNat = true then nets z.toNat else 0) := by rw [show (z + 1).toNat = z.toNat + 1 by omega]; rfl
    have sb := sm_b (n := nets) (S := bz mask) (B := 594) (by decide) z.toNat (fun i hi => (hn i (by omega)).2)
    rw [← h2] at sb
    by_cases g : mask / 2 ^ z.toNat % 2 = 1
    · have bt : bz mask z.toNat = true := by unfold bz; rw [decide_eq_true g]
      obtain ⟨u1, u2, u3⟩ := pop_s hm ⟨h1, by omega⟩ g
      obtain ⟨v1, v2⟩ := bz_pop hm (by omega) bt
      have hs := ishl_z (z := z) ⟨h1, by omega⟩
      have pw : (1 : Int) ≤ 2 ^ z.toNat := pow_1 _
      obtain ⟨w1, w2⟩ := hg (mask - 2 ^ z.toNat) (by omega) (by omega)
      obtain ⟨n1, n2⟩ := hn z.toNat (by omega)
      obtain ⟨m1, m2⟩ := imax_s (x := best) (y := G (mask - 2 ^ z.toNat))
      have := ih (imax best (G (mask - 2 ^ z.toNat)), su + nets z.toNat) ⟨by omega, by rw [st, if_pos bt, h2], ⟨by show 0 ≤ imax _ _; omega, by show imax _ _ ≤ 64; omega⟩, fun i hi hb => by
        show _ ≤ imax _ _
        by_cases e : i = z.toNat
        · rw [e]; omega
        · have := h4 i (by omega) hb
          omega, by
        show imax _ _ = 0 ∨ _
        rcases m2 with e | e
        · rcases h5 with h | ⟨i, x, y, y2⟩
          · exact Or.inl (e.trans h)
          · exact Or.inr ⟨i, by omega, y, e.trans y2⟩
        · exact Or.inr ⟨z.toNat, by omega, bt, e⟩⟩
      refine l_X1_mostGroups_8 ?_
      simp only [wp_c, st_iload, st_lload, st_aload, st_istore, st_lstore, st_astore, st_iinc, st_sipush, st_jsr_w, st_goto, st_jsr, st_goto_w, st_if_icmp, st_ifCond, st_iadd, st_isub, st_imul, st_idiv, st_irem, st_iand, st_ior, st_ixor, st_ishl, st_ishr, st_iushr, st_ladd, st_lsub, st_lmul, st_ldiv, st_lrem, st_land, st_lor, st_lshl, st_lshr, st_i2l, st_l2i, st_i2b, st_i2s, st_i2c, st_lcmp, st_dup, st_pop, st_dup2, st_pop2, st_getfield, st_getstatic, st_checkcast, st_instanceof, st_putfield, st_putstatic, st_dstore, st_iaload, st_baload, st_laload, st_aaload, st_iastore, st_bastore, st_lastore, st_arraylength, st_dcmpg, st_dcmpl, st_fcmpg, st_fcmpl, st_monitorenter, st_tableswitch, st_multianewarray, st_invokeinterface, st_ireturn, st_lreturn, st_return_, st_ldc, st_ldc_w, st_ldc2_w, st_freturn, st_invokevirtual, st_anewarray0, st_anewarray1, st_anewarray2, st_anewarray3, st_anewarray4, st_anewarray5, st_lookupswitch, popI_c, popL_c, popR_c, popV_c, getI_c, getL_c, getR_c, lg_z, lg_s, ls1_z, ls1_o, ls1_s, ls2_z, ls2_o, ls2_s, noL_i, noL_l, noL_r, isL_i, isL_l, isL_r, tk_z, tk_s, psh_n, psh_s, ent_e, entL_n, entL_c, cc_eq, cc_ne, cc_lt, cc_ge, cc_gt, cc_le, swt_n, swt_c, lsw_n, lsw_c, mPs, NSTR_e, akds, alens, cnts, arfs, inb_e, lcm_lt, lcm_gt, lcm_ge, lcm_le, lcm_eq, lcm_a, lcm_b, Int.reduceToNat, Nat.reduceDiv, Nat.reduceMod, Nat.reduceMul, Nat.reduceAdd, Nat.reduceSub, Nat.reduceLT, Nat.reduceLeDiff, Nat.reduceEqDiff, Int.reduceNeg, Int.reduceAdd, Nat.one_mul, Nat.zero_mul, Nat.add_zero, Nat.zero_add, if_true, if_false, eq_self, true_and, and_true, true_or, or_true, false_or, or_false, List.length_cons, List.length_nil, List.cons_append, List.nil_append, List.replicate_zero, List.replicate_succ, Nat.lt_irrefl, reduceCtorEq, Bool.false_eq_true, in32, in64, Int.reduceLE, Int.reduceLT, Int.reduceEq, Int.reduceNe, not_true_eq_false, not_false_eq_true, true_implies, false_implies, implies_true, false_and, and_false, and_self, b_X1_mostGroups, r_X1_mostGroups, h_X1_mostGroups_8, s1, s2, hs, u3, n1, w1]
      (repeat' with_reducible first | apply And.intro | intro _)
      all_goals try omega
      all_goals exact this
    · have bt : ¬ bz mask z.toNat = true := by
        unfold bz
        rw [decide_eq_false g]
        decide
      have gz : mask / 2 ^ z.toNat % 2 = 0 := (bit01 mask z.toNat).resolve_right g
      have := ih (best, su) ⟨by omega, by rw [st, if_neg bt, h2]; exact (Int.add_zero _).symm, h3, fun i hi hb => by
        by_cases e : i = z.toNat
        · rw [e] at hb; exact absurd hb bt
        · exact h4 i (by omega) hb, by
        rcases h5 with h | ⟨i, x, y⟩
        · exact Or.inl h
        · exact Or.inr ⟨i, by omega, y⟩⟩
      refine l_X1_mostGroups_8 ?_
      simp only [wp_c, st_iload, st_lload, st_aload, st_istore, st_lstore, st_astore, st_iinc, st_sipush, st_jsr_w, st_goto, st_jsr, st_goto_w, st_if_icmp, st_ifCond, st_iadd, st_isub, st_imul, st_idiv, st_irem, st_iand, st_ior, st_ixor, st_ishl, st_ishr, st_iushr, st_ladd, st_lsub, st_lmul, st_ldiv, st_lrem, st_land, st_lor, st_lshl, st_lshr, st_i2l, st_l2i, st_i2b, st_i2s, st_i2c, st_lcmp, st_dup, st_pop, st_dup2, st_pop2, st_getfield, st_getstatic, st_checkcast, st_instanceof, st_putfield, st_putstatic, st_dstore, st_iaload, st_baload, st_laload, st_aaload, st_iastore, st_bastore, st_lastore, st_arraylength, st_dcmpg, st_dcmpl, st_fcmpg, st_fcmpl, st_monitorenter, st_tableswitch, st_multianewarray, st_invokeinterface, st_ireturn, st_lreturn, st_return_, st_ldc, st_ldc_w, st_ldc2_w, st_freturn, st_invokevirtual, st_anewarray0, st_anewarray1, st_anewarray2, st_anewarray3, st_anewarray4, st_anewarray5, st_lookupswitch, popI_c, popL_c, popR_c, popV_c, getI_c, getL_c, getR_c, lg_z, lg_s, ls1_z, ls1_o, ls1_s, ls2_z, ls2_o, ls2_s, noL_i, noL_l, noL_r, isL_i, isL_l, isL_r, tk_z, tk_s, psh_n, psh_s, ent_e, entL_n, entL_c, cc_eq, cc_ne, cc_lt, cc_ge, cc_gt, cc_le, swt_n, swt_c, lsw_n, lsw_c, mPs, NSTR_e, akds, alens, cnts, arfs, inb_e, lcm_lt, lcm_gt, lcm_ge, lcm_le, lcm_eq, lcm_a, lcm_b, Int.reduceToNat, Nat.reduceDiv, Nat.reduceMod, Nat.reduceMul, Nat.reduceAdd, Nat.reduceSub, Nat.reduceLT, Nat.reduceLeDiff, Nat.reduceEqDiff, Int.reduceNeg, Int.reduceAdd, Nat.one_mul, Nat.zero_mul, Nat.add_zero, Nat.zero_add, if_true, if_false, eq_self, true_and, and_true, true_or, or_true, false_or, or_false, List.length_cons, List.length_nil, List.cons_append, List.nil_append, List.replicate_zero, List.replicate_succ, Nat.lt_irrefl, reduceCtorEq, Bool.false_eq_true, in32, in64, Int.reduceLE, Int.reduceLT, Int.reduceEq, Int.reduceNe, not_true_eq_false, not_false_eq_true, true_implies, false_implies, implies_true, false_and, and_false, and_self, b_X1_mostGroups, r_X1_mostGroups, h_X1_mostGroups_8, s1, s2, gz]
      (repeat' with_reducible first | apply And.intro | intro _)
      all_goals try omega
      all_goals exact this
set_option maxRecDepth 4000 in
theorem c_fewestPapers (hi : WI σ 0 b lw ll) (hK : ∀ σ', eqx [18, 19] σ σ' → K (some (.inl (stlF (V σ 0 b)))) σ') : Ev (d + 4) 15 [.inr (.inr (some (1, 0)))] σ K := by
  have ho := hi.2.2.1
  have hP := ho.P
  have hpl : pln σ 0 < (σ 60 0 0).toNat := hi.2.1
  generalize ha : V σ 0 b = a at ho hP hK
  have cl := cnZ_le (n := nt a) (a 2).toNat
  have c64 : ∀ c : Nat, c ≤ 6 → (1 : Int) ≤ 2 ^ c ∧ (2 : Int) ^ c ≤ 64 := fun c h => p2_64 ⟨c, by omega⟩
  have p2 := c64 _ (by omega : cnZ (nt a) (a 2).toNat ≤ 6)
  -- the table
  have H2 : ∀ (q : Nat) (mask : Int) (x3 : AV) (σc : Mem), isL x3 = false → 1 ≤ mask → mask + q = 2 ^ (cnZ (nt a) (a 2).toNat) → eqx [18, 19] σ σc → (∀ p, p < (a 2).toNat → ¬ nt a p = 0 → σc 18 0 (cnZ (nt a) p) = nt a p) → (∀ m' : Int, 0 ≤ m' → m' < mask → mx (nt a) (a 2).toNat (emb (nt a) m') (σc 19 0 m'.toNat) ∧ σc 19 0 m'.toNat ≤ m') → Rn (d + 4) 15 53 [.inr (.inr (some (1, 0))), .inl (cnZ (nt a) (a 2).toNat : Int), .inl mask, x3] [] σc K := by
    intro q
    have hz := ishl_z (z := (cnZ (nt a) (a 2).toNat : Int)) ⟨by omega, by omega⟩
    rw [Int.toNat_natCast] at hz
    induction q with
    | zero =>
      intro mask x3 σc hx a1 a2 xc h18 h19
      obtain ⟨t1, t2⟩ := h19 (2 ^ (cnZ (nt a) (a 2).toNat) - 1) (by omega) (by omega)
      have er := grpF_eq (mx_congr (fun i hi => emb_full (by omega) i hi) t1)
      have t0 := t1.1
      have fin := hK σc xc
      unfold stlF at fin
      rw [← er] at fin
      refine l_X1_fewestPapers_53 ?_
      simp only [wp_c, st_iload, st_lload, st_aload, st_istore, st_lstore, st_astore, st_iinc, st_sipush, st_jsr_w, st_goto, st_jsr, st_goto_w, st_if_icmp, st_ifCond, st_iadd, st_isub, st_imul, st_idiv, st_irem, st_iand, st_ior, st_ixor, st_ishl, st_ishr, st_iushr, st_ladd, st_lsub, st_lmul, st_ldiv, st_lrem, st_land, st_lor, st_lshl, st_lshr, st_i2l, st_l2i, st_i2b, st_i2s, st_i2c, st_lcmp, st_dup, st_pop, st_dup2, st_pop2, st_getfield, st_getstatic, st_checkcast, st_instanceof, st_putfield, st_putstatic, st_dstore, st_iaload, st_baload, st_laload, st_aaload, st_iastore, st_bastore, st_lastore, st_arraylength, st_dcmpg, st_dcmpl, st_fcmpg, st_fcmpl, st_monitorenter, st_tableswitch, st_multianewarray, st_invokeinterface, st_ireturn, st_lreturn, st_return_, st_ldc, st_ldc_w, st_ldc2_w, st_freturn, st_invokevirtual, st_anewarray0, st_anewarray1, st_anewarray2, st_anewarray3, st_anewarray4, st_anewarray5, st_lookupswitch, popI_c, popL_c, popR_c, popV_c, getI_c, getL_c, getR_c, lg_z, lg_s, ls1_z, ls1_o, ls1_s, ls2_z, ls2_o, ls2_s, noL_i, noL_l, noL_r, isL_i, isL_l, isL_r, tk_z, tk_s, psh_n, psh_s, ent_e, entL_n, entL_c, cc_eq, cc_ne, cc_lt, cc_ge, cc_gt, cc_le, swt_n, swt_c, lsw_n, lsw_c, mPs, NSTR_e, akds, alens, cnts, arfs, inb_e, lcm_lt, lcm_gt, lcm_ge, lcm_le, lcm_eq, lcm_a, lcm_b, Int.reduceToNat, Nat.reduceDiv, Nat.reduceMod, Nat.reduceMul, Nat.reduceAdd, Nat.reduceSub, Nat.reduceLT, Nat.reduceLeDiff, Nat.reduceEqDiff, Int.reduceNeg, Int.reduceAdd, Nat.one_mul, Nat.zero_mul, Nat.add_zero, Nat.zero_add, if_true, if_false, eq_self, true_and, and_true, true_or, or_true, false_or, or_false, List.length_cons, List.length_nil, List.cons_append, List.nil_append, List.replicate_zero, List.replicate_succ, Nat.lt_irrefl, reduceCtorEq, Bool.false_eq_true, in32, in64, Int.reduceLE, Int.reduceLT, Int.reduceEq, Int.reduceNe, not_true_eq_false, not_false_eq_true, true_implies, false_implies, implies_true, false_and, and_false, and_self, b_X1_fewestPapers, r_X1_fewestPapers, h_X1_fewestPapers_53, hz]
      (repeat' with_reducible first | apply And.intro | intro _)
      all_goals try omega
      all_goals exact fin
    | succ q ih =>
      intro mask x3 σc hx a1 a2 xc h18 h19
      refine l_X1_fewestPapers_53 ?_
      simp only [wp_c, st_iload, st_lload, st_aload, st_istore, st_lstore, st_astore, st_iinc, st_sipush, st_jsr_w, st_goto, st_jsr, st_goto_w, st_if_icmp, st_ifCond, st_iadd, st_isub, st_imul, st_idiv, st_irem, st_iand, st_ior, st_ixor, st_ishl, st_ishr, st_iushr, st_ladd, st_lsub, st_lmul, st_ldiv, st_lrem, st_land, st_lor, st_lshl, st_lshr, st_i2l, st_l2i, st_i2b, st_i2s, st_i2c, st_lcmp, st_dup, st_pop, st_dup2, st_pop2, st_getfield, st_getstatic, st_checkcast, st_instanceof, st_putfield, st_putstatic, st_dstore, st_iaload, st_baload, st_laload, st_aaload, st_iastore, st_bastore, st_lastore, st_arraylength, st_dcmpg, st_dcmpl, st_fcmpg, st_fcmpl, st_monitorenter, st_tableswitch, st_multianewarray, st_invokeinterface, st_ireturn, st_lreturn, st_return_, st_ldc, st_ldc_w, st_ldc2_w, st_freturn, st_invokevirtual, st_anewarray0, st_anewarray1, st_anewarray2, st_anewarray3, st_anewarray4, st_anewarray5, st_lookupswitch, popI_c, popL_c, popR_c, popV_c, getI_c, getL_c, getR_c, lg_z, lg_s, ls1_z, ls1_o, ls1_s, ls2_z, ls2_o, ls2_s, noL_i, noL_l, noL_r, isL_i, isL_l, isL_r, tk_z, tk_s, psh_n, psh_s, ent_e, entL_n, entL_c, cc_eq, cc_ne, cc_lt, cc_ge, cc_gt, cc_le, swt_n, swt_c, lsw_n, lsw_c, mPs, NSTR_e, akds, alens, cnts, arfs, inb_e, lcm_lt, lcm_gt, lcm_ge, lcm_le, lcm_eq, lcm_a, lcm_b, Int.reduceToNat, Nat.reduceDiv, Nat.reduceMod, Nat.reduceMul, Nat.reduceAdd, Nat.reduceSub, Nat.reduceLT, Nat.reduceLeDiff, Nat.reduceEqDiff, Int.reduceNeg, Int.reduceAdd, Nat.one_mul, Nat.zero_mul, Nat.add_zero, Nat.zero_add, if_true, if_false, eq_self, true_and, and_true, true_or, or_true, false_or, or_false, List.length_cons, List.length_nil, List.cons_append, List.nil_append, List.replicate_zero, List.replicate_succ, Nat.lt_irrefl, reduceCtorEq, Bool.false_eq_true, in32, in64, Int.reduceLE, Int.reduceLT, Int.reduceEq, Int.reduceNe, not_true_eq_false, not_false_eq_true, true_implies, false_implies, implies_true, false_and, and_false, and_self, b_X1_fewestPapers, r_X1_fewestPapers, h_X1_fewestPapers_53, hz]
      (repeat' with_reducible first | apply And.intro | intro _)
      all_goals try omega
      refine c_mostGroups (c := cnZ (nt a) (a 2).toNat) (nets := fun i => σc 18 0 i) (G := fun m => σc 19 0 m.toNat) (by omega) ⟨by omega, by omega⟩ (fun i hi => ⟨rfl, ?_⟩) (fun m' b1 b2 => ⟨rfl, (h19 m' b1 b2).1.1, by have := (h19 m' b1 b2).2; omega⟩) (fun best hb g1 g2 => ?_)
      · obtain ⟨p, p1, p2, p3⟩ := cnZ_ex (a 2).toNat i hi
        have := h18 p p1 p2
        rw [p3] at this
        show -594 ≤ σc 18 0 i ∧ σc 18 0 i ≤ 594
        rw [this]
        exact nt_b ho (by omega)
      · have es := sm_emb (n := nt a) (nets := fun i => σc 18 0 i) (mask := mask) (a 2).toNat h18
        obtain ⟨j, j1, j2⟩ := bz_any (c := cnZ (nt a) (a 2).toNat) (s := mask) (by omega) (by omega) (by omega)
        have lo : ∀ i : Nat, i < cnZ (nt a) (a 2).toNat → bz mask i = true → 0 ≤ mask - 2 ^ i ∧ mask - 2 ^ i < mask := fun i i1 i2 => by
          obtain ⟨v1, v2⟩ := bz_pop (s := mask) ⟨by omega, by omega⟩ (by omega) i2
          have pw : (1 : Int) ≤ 2 ^ i := pow_1 _
          omega
        have he : ∃ i : Nat, i < cnZ (nt a) (a 2).toNat ∧ bz mask i = true ∧ best = σc 19 0 (mask - 2 ^ i).toNat := by
          rcases g2 with g2 | g2
          · refine ⟨j, j1, j2, ?_⟩
            have := g1 j j1 j2
            have l := lo j j1 j2
            have := (h19 _ l.1 l.2).1.1
            have g1j : σc 19 0 (mask - 2 ^ j).toNat ≤ best := g1 j j1 j2
            omega
          · exact g2
        have m := mx_tab (n := nt a) (P := (a 2).toNat) (mask := mask) (best := best) (G := fun m => σc 19 0 m.toNat) (by omega) ⟨by omega, by omega⟩ (fun m' b1 b2 => (h19 m' b1 b2).1) g1 he
        rw [es]
        have ml : best + (if sm (nt a) (emb (nt a) mask) (a 2).toNat = 0 then 1 else 0) ≤ mask := by
          obtain ⟨i, i1, i2, i3⟩ := he
          have l := lo i i1 i2
          have := (h19 _ l.1 l.2).2
          split <;> omega
        have mb := m.1
        generalize best + (if sm (nt a) (emb (nt a) mask) (a 2).toNat = 0 then 1 else 0) = r at m ml mb
        simp only [wp_c, st_iload, st_lload, st_aload, st_istore, st_lstore, st_astore, st_iinc, st_sipush, st_jsr_w, st_goto, st_jsr, st_goto_w, st_if_icmp, st_ifCond, st_iadd, st_isub, st_imul, st_idiv, st_irem, st_iand, st_ior, st_ixor, st_ishl, st_ishr, st_iushr, st_ladd, st_lsub, st_lmul, st_ldiv, st_lrem, st_land, st_lor, st_lshl, st_lshr, st_i2l, st_l2i, st_i2b, st_i2s, st_i2c, st_lcmp, st_dup, st_pop, st_dup2, st_pop2, st_getfield, st_getstatic, st_checkcast, st_instanceof, st_putfield, st_putstatic, st_dstore, st_iaload, st_baload, st_laload, st_aaload, st_iastore, st_bastore, st_lastore, st_arraylength, st_dcmpg, st_dcmpl, st_fcmpg, st_fcmpl, st_monitorenter, st_tableswitch, st_multianewarray, st_invokeinterface, st_ireturn, st_lreturn, st_return_, st_ldc, st_ldc_w, st_ldc2_w, st_freturn, st_invokevirtual, st_anewarray0, st_anewarray1, st_anewarray2, st_anewarray3, st_anewarray4, st_anewarray5, st_lookupswitch, popI_c, popL_c, popR_c, popV_c, getI_c, getL_c, getR_c, lg_z, lg_s, ls1_z, ls1_o, ls1_s, ls2_z, ls2_o, ls2_s, noL_i, noL_l, noL_r, isL_i, isL_l, isL_r, tk_z, tk_s, psh_n, psh_s, ent_e, entL_n, entL_c, cc_eq, cc_ne, cc_lt, cc_ge, cc_gt, cc_le, swt_n, swt_c, lsw_n, lsw_c, mPs, NSTR_e, akds, alens, cnts, arfs, inb_e, lcm_lt, lcm_gt, lcm_ge, lcm_le, lcm_eq, lcm_a, lcm_b, Int.reduceToNat, Nat.reduceDiv, Nat.reduceMod, Nat.reduceMul, Nat.reduceAdd, Nat.reduceSub, Nat.reduceLT, Nat.reduceLeDiff, Nat.reduceEqDiff, Int.reduceNeg, Int.reduceAdd, Nat.one_mul, Nat.zero_mul, Nat.add_zero, Nat.zero_add, if_true, if_false, eq_self, true_and, and_true, true_or, or_true, false_or, or_false, List.length_cons, List.length_nil, List.cons_append, List.nil_append, List.replicate_zero, List.replicate_succ, Nat.lt_irrefl, reduceCtorEq, Bool.false_eq_true, in32, in64, Int.reduceLE, Int.reduceLT, Int.reduceEq, Int.reduceNe, not_true_eq_false, not_false_eq_true, true_implies, false_implies, implies_true, false_and, and_false, and_self, b_X1_fewestPapers, r_X1_fewestPapers]
        (repeat' with_reducible first | apply And.intro | intro _)
        all_goals try omega
        refine ih (mask + 1) _ _ hx (by omega) (by omega) (eqx_mu xc (by decide)) (fun p p1 p2 => by rw [mu_k (by decide)]; exact h18 p p1 p2) (fun m' b1 b2 => ?_)
        rw [mu_at]
        by_cases e : m' = mask
        · rw [if_pos (by rw [e]), e]
          exact ⟨m, ml⟩
        · rw [if_neg (by omega)]
          exact h19 m' b1 (by omega)
  have H1 : ∀ (q : Nat) (p : Int) (x3 : AV) (σc : Mem), isL x3 = false → 0 ≤ p → p + q = a 2 → eqx [18, 19] σ σc → (∀ p', p' < p.toNat → ¬ nt a p' = 0 → σc 18 0 (cnZ (nt a) p') = nt a p') → Rn (d + 4) 15 4 [.inr (.inr (some (1, 0))), .inl (cnZ (nt a) p.toNat : Int), .inl p, x3] [] σc K := by
    intro q
    induction q with
    | zero =>
      intro p x3 σc hx a1 a2 xc h18
      have e : p = a 2 := by omega
      have e10 : (σc 10 0 3).toNat = pln σ 0 := by rw [xc 10 (by decide)]; rfl
      have e2 : σc 3 (pln σ 0) 6 = a 2 := by rw [xc 3 (by decide), ← ha]; rfl
      have e60 : σc 60 = σ 60 := xc 60 (by decide)
      rw [e] at h18 ⊢
      have := H2 (2 ^ (cnZ (nt a) (a 2).toNat) - 1 : Int).toNat 1 x3 (mu σc 19 0 0 0) hx (by decide) (by omega) (eqx_mu xc (by decide)) (fun p p1 p2 => by rw [mu_k (by decide)]; exact h18 p p1 p2) (fun m' b1 b2 => by
        have : m' = 0 := by omega
        subst this
        rw [mu_at, if_pos (show Int.toNat 0 = 0 from rfl)]
        exact ⟨mx_nil (fun i hi => by unfold emb bz; rw [Int.zero_ediv]; simp), by decide⟩)
      refine l_X1_fewestPapers_4 ?_
      simp only [wp_c, st_iload, st_lload, st_aload, st_istore, st_lstore, st_astore, st_iinc, st_sipush, st_jsr_w, st_goto, st_jsr, st_goto_w, st_if_icmp, st_ifCond, st_iadd, st_isub, st_imul, st_idiv, st_irem, st_iand, st_ior, st_ixor, st_ishl, st_ishr, st_iushr, st_ladd, st_lsub, st_lmul, st_ldiv, st_lrem, st_land, st_lor, st_lshl, st_lshr, st_i2l, st_l2i, st_i2b, st_i2s, st_i2c, st_lcmp, st_dup, st_pop, st_dup2, st_pop2, st_getfield, st_getstatic, st_checkcast, st_instanceof, st_putfield, st_putstatic, st_dstore, st_iaload, st_baload, st_laload, st_aaload, st_iastore, st_bastore, st_lastore, st_arraylength, st_dcmpg, st_dcmpl, st_fcmpg, st_fcmpl, st_monitorenter, st_tableswitch, st_multianewarray, st_invokeinterface, st_ireturn, st_lreturn, st_return_, st_ldc, st_ldc_w, st_ldc2_w, st_freturn, st_invokevirtual, st_anewarray0, st_anewarray1, st_anewarray2, st_anewarray3, st_anewarray4, st_anewarray5, st_lookupswitch, popI_c, popL_c, popR_c, popV_c, getI_c, getL_c, getR_c, lg_z, lg_s, ls1_z, ls1_o, ls1_s, ls2_z, ls2_o, ls2_s, noL_i, noL_l, noL_r, isL_i, isL_l, isL_r, tk_z, tk_s, psh_n, psh_s, ent_e, entL_n, entL_c, cc_eq, cc_ne, cc_lt, cc_ge, cc_gt, cc_le, swt_n, swt_c, lsw_n, lsw_c, mPs, NSTR_e, akds, alens, cnts, arfs, inb_e, lcm_lt, lcm_gt, lcm_ge, lcm_le, lcm_eq, lcm_a, lcm_b, Int.reduceToNat, Nat.reduceDiv, Nat.reduceMod, Nat.reduceMul, Nat.reduceAdd, Nat.reduceSub, Nat.reduceLT, Nat.reduceLeDiff, Nat.reduceEqDiff, Int.reduceNeg, Int.reduceAdd, Nat.one_mul, Nat.zero_mul, Nat.add_zero, Nat.zero_add, if_true, if_false, eq_self, true_and, and_true, true_or, or_true, false_or, or_false, List.length_cons, List.length_nil, List.cons_append, List.nil_append, List.replicate_zero, List.replicate_succ, Nat.lt_irrefl, reduceCtorEq, Bool.false_eq_true, in32, in64, Int.reduceLE, Int.reduceLT, Int.reduceEq, Int.reduceNe, not_true_eq_false, not_false_eq_true, true_implies, false_implies, implies_true, false_and, and_false, and_self, b_X1_fewestPapers, r_X1_fewestPapers, h_X1_fewestPapers_4, e10, e2, e60]
      (repeat' with_reducible first | apply And.intro | intro _)
      all_goals try omega
      all_goals exact this
    | succ q ih =>
      intro p x3 σc hx a1 a2 xc h18
      have e10 : (σc 10 0 3).toNat = pln σ 0 := by rw [xc 10 (by decide)]; rfl
      have e2 : σc 3 (pln σ 0) 6 = a 2 := by rw [xc 3 (by decide), ← ha]; rfl
      have e60 : σc 60 = σ 60 := xc 60 (by decide)
      have ic : WI σc 0 b lw ll := WI_x xc (by decide) (by decide) hi
      have vc : V σc 0 b = a := (V_x xc (by decide) 0 b).trans ha
      have cp := cnZ_le (n := nt a) p.toNat
      have nb := mNet_b ho (p := p) ⟨a1, by omega⟩
      have ep : ((p.toNat : Nat) : Int) = p := by omega
      have en : nt a p.toNat = mNet a p := by unfold nt; rw [ep]
      have cs : cnZ (nt a) (p + 1).toNat = cnZ (nt a) p.toNat + (if nt a p.toNat = 0 then 0 else 1) := by rw [show (p + 1).toNat = p.toNat + 1 by omega]; rfl
      rw [en] at cs
      refine l_X1_fewestPapers_4 ?_
      simp only [wp_c, st_iload, st_lload, st_aload, st_istore, st_lstore, st_astore, st_iinc, st_sipush, st_jsr_w, st_goto, st_jsr, st_goto_w, st_if_icmp, st_ifCond, st_iadd, st_isub, st_imul, st_idiv, st_irem, st_iand, st_ior, st_ixor, st_ishl, st_ishr, st_iushr, st_ladd, st_lsub, st_lmul, st_ldiv, st_lrem, st_land, st_lor, st_lshl, st_lshr, st_i2l, st_l2i, st_i2b, st_i2s, st_i2c, st_lcmp, st_dup, st_pop, st_dup2, st_pop2, st_getfield, st_getstatic, st_checkcast, st_instanceof, st_putfield, st_putstatic, st_dstore, st_iaload, st_baload, st_laload, st_aaload, st_iastore, st_bastore, st_lastore, st_arraylength, st_dcmpg, st_dcmpl, st_fcmpg, st_fcmpl, st_monitorenter, st_tableswitch, st_multianewarray, st_invokeinterface, st_ireturn, st_lreturn, st_return_, st_ldc, st_ldc_w, st_ldc2_w, st_freturn, st_invokevirtual, st_anewarray0, st_anewarray1, st_anewarray2, st_anewarray3, st_anewarray4, st_anewarray5, st_lookupswitch, popI_c, popL_c, popR_c, popV_c, getI_c, getL_c, getR_c, lg_z, lg_s, ls1_z, ls1_o, ls1_s, ls2_z, ls2_o, ls2_s, noL_i, noL_l, noL_r, isL_i, isL_l, isL_r, tk_z, tk_s, psh_n, psh_s, ent_e, entL_n, entL_c, cc_eq, cc_ne, cc_lt, cc_ge, cc_gt, cc_le, swt_n, swt_c, lsw_n, lsw_c, mPs, NSTR_e, akds, alens, cnts, arfs, inb_e, lcm_lt, lcm_gt, lcm_ge, lcm_le, lcm_eq, lcm_a, lcm_b, Int.reduceToNat, Nat.reduceDiv, Nat.reduceMod, Nat.reduceMul, Nat.reduceAdd, Nat.reduceSub, Nat.reduceLT, Nat.reduceLeDiff, Nat.reduceEqDiff, Int.reduceNeg, Int.reduceAdd, Nat.one_mul, Nat.zero_mul, Nat.add_zero, Nat.zero_add, if_true, if_false, eq_self, true_and, and_true, true_or, or_true, false_or, or_false, List.length_cons, List.length_nil, List.cons_append, List.nil_append, List.replicate_zero, List.replicate_succ, Nat.lt_irrefl, reduceCtorEq, Bool.false_eq_true, in32, in64, Int.reduceLE, Int.reduceLT, Int.reduceEq, Int.reduceNe, not_true_eq_false, not_false_eq_true, true_implies, false_implies, implies_true, false_and, and_false, and_self, b_X1_fewestPapers, r_X1_fewestPapers, h_X1_fewestPapers_4, e10, e2, e60]
      (repeat' with_reducible first | apply And.intro | intro _)
      all_goals try omega
      refine c_netOf ⟨a1, by omega⟩ ic ?_
      rw [vc]
      by_cases z : mNet a p = 0
      · rw [if_pos z, Nat.add_zero] at cs
        have := ih (p + 1) (.inl (mNet a p)) σc rfl (by omega) (by omega) xc (fun p' q1 q2 => by
          by_cases e : p' = p.toNat
          · rw [e, en] at q2; exact absurd z q2
          · exact h18 p' (by omega) q2)
        rw [cs] at this
        simp only [wp_c, st_iload, st_lload, st_aload, st_istore, st_lstore, st_astore, st_iinc, st_sipush, st_jsr_w, st_goto, st_jsr, st_goto_w, st_if_icmp, st_ifCond, st_iadd, st_isub, st_imul, st_idiv, st_irem, st_iand, st_ior, st_ixor, st_ishl, st_ishr, st_iushr, st_ladd, st_lsub, st_lmul, st_ldiv, st_lrem, st_land, st_lor, st_lshl, st_lshr, st_i2l, st_l2i, st_i2b, st_i2s, st_i2c, st_lcmp, st_dup, st_pop, st_dup2, st_pop2, st_getfield, st_getstatic, st_checkcast, st_instanceof, st_putfield, st_putstatic, st_dstore, st_iaload, st_baload, st_laload, st_aaload, st_iastore, st_bastore, st_lastore, st_arraylength, st_dcmpg, st_dcmpl, st_fcmpg, st_fcmpl, st_monitorenter, st_tableswitch, st_multianewarray, st_invokeinterface, st_ireturn, st_lreturn, st_return_, st_ldc, st_ldc_w, st_ldc2_w, st_freturn, st_invokevirtual, st_anewarray0, st_anewarray1, st_anewarray2, st_anewarray3, st_anewarray4, st_anewarray5, st_lookupswitch, popI_c, popL_c, popR_c, popV_c, getI_c, getL_c, getR_c, lg_z, lg_s, ls1_z, ls1_o, ls1_s, ls2_z, ls2_o, ls2_s, noL_i, noL_l, noL_r, isL_i, isL_l, isL_r, tk_z, tk_s, psh_n, psh_s, ent_e, entL_n, entL_c, cc_eq, cc_ne, cc_lt, cc_ge, cc_gt, cc_le, swt_n, swt_c, lsw_n, lsw_c, mPs, NSTR_e, akds, alens, cnts, arfs, inb_e, lcm_lt, lcm_gt, lcm_ge, lcm_le, lcm_eq, lcm_a, lcm_b, Int.reduceToNat, Nat.reduceDiv, Nat.reduceMod, Nat.reduceMul, Nat.reduceAdd, Nat.reduceSub, Nat.reduceLT, Nat.reduceLeDiff, Nat.reduceEqDiff, Int.reduceNeg, Int.reduceAdd, Nat.one_mul, Nat.zero_mul, Nat.add_zero, Nat.zero_add, if_true, if_false, eq_self, true_and, and_true, true_or, or_true, false_or, or_false, List.length_cons, List.length_nil, List.cons_append, List.nil_append, List.replicate_zero, List.replicate_succ, Nat.lt_irrefl, reduceCtorEq, Bool.false_eq_true, in32, in64, Int.reduceLE, Int.reduceLT, Int.reduceEq, Int.reduceNe, not_true_eq_false, not_false_eq_true, true_implies, false_implies, implies_true, false_and, and_false, and_self, b_X1_fewestPapers, r_X1_fewestPapers]
        (repeat' with_reducible first | apply And.intro | intro _)
        all_goals try omega
        all_goals exact this
      · rw [if_neg z] at cs
        have := ih (p + 1) (.inl (mNet a p)) (mu σc 18 0 (cnZ (nt a) p.toNat) (mNet a p)) rfl (by omega) (by omega) (eqx_mu xc (by decide)) (fun p' q1 q2 => by
          rw [mu_at]
          by_cases e : p' = p.toNat
          · rw [e, if_pos rfl, en]
          · have := cnZ_lt q2 p.toNat (by omega)
            rw [if_neg (by omega)]
            exact h18 p' (by omega) q2)
        rw [cs] at this
        simp only [wp_c, st_iload, st_lload, st_aload, st_istore, st_lstore, st_astore, st_iinc, st_sipush, st_jsr_w, st_goto, st_jsr, st_goto_w, st_if_icmp, st_ifCond, st_iadd, st_isub, st_imul, st_idiv, st_irem, st_iand, st_ior, st_ixor, st_ishl, st_ishr, st_iushr, st_ladd, st_lsub, st_lmul, st_ldiv, st_lrem, st_land, st_lor, st_lshl, st_lshr, st_i2l, st_l2i, st_i2b, st_i2s, st_i2c, st_lcmp, st_dup, st_pop, st_dup2, st_pop2, st_getfield, st_getstatic, st_checkcast, st_instanceof, st_putfield, st_putstatic, st_dstore, st_iaload, st_baload, st_laload, st_aaload, st_iastore, st_bastore, st_lastore, st_arraylength, st_dcmpg, st_dcmpl, st_fcmpg, st_fcmpl, st_monitorenter, st_tableswitch, st_multianewarray, st_invokeinterface, st_ireturn, st_lreturn, st_return_, st_ldc, st_ldc_w, st_ldc2_w, st_freturn, st_invokevirtual, st_anewarray0, st_anewarray1, st_anewarray2, st_anewarray3, st_anewarray4, st_anewarray5, st_lookupswitch, popI_c, popL_c, popR_c, popV_c, getI_c, getL_c, getR_c, lg_z, lg_s, ls1_z, ls1_o, ls1_s, ls2_z, ls2_o, ls2_s, noL_i, noL_l, noL_r, isL_i, isL_l, isL_r, tk_z, tk_s, psh_n, psh_s, ent_e, entL_n, entL_c, cc_eq, cc_ne, cc_lt, cc_ge, cc_gt, cc_le, swt_n, swt_c, lsw_n, lsw_c, mPs, NSTR_e, akds, alens, cnts, arfs, inb_e, lcm_lt, lcm_gt, lcm_ge, lcm_le, lcm_eq, lcm_a, lcm_b, Int.reduceToNat, Nat.reduceDiv, Nat.reduceMod, Nat.reduceMul, Nat.reduceAdd, Nat.reduceSub, Nat.reduceLT, Nat.reduceLeDiff, Nat.reduceEqDiff, Int.reduceNeg, Int.reduceAdd, Nat.one_mul, Nat.zero_mul, Nat.add_zero, Nat.zero_add, if_true, if_false, eq_self, true_and, and_true, true_or, or_true, false_or, or_false, List.length_cons, List.length_nil, List.cons_append, List.nil_append, List.replicate_zero, List.replicate_succ, Nat.lt_irrefl, reduceCtorEq, Bool.false_eq_true, in32, in64, Int.reduceLE, Int.reduceLT, Int.reduceEq, Int.reduceNe, not_true_eq_false, not_false_eq_true, true_implies, false_implies, implies_true, false_and, and_false, and_self, b_X1_fewestPapers, r_X1_fewestPapers, Int.toNat_natCast]
        (repeat' with_reducible first | apply And.intro | intro _)
        all_goals try omega
        all_goals exact this
  refine e_X1_fewestPapers (Nat.le_of_ble_eq_true rfl) ?_
  simp only [wp_c, st_iload, st_lload, st_aload, st_istore, st_lstore, st_astore, st_iinc, st_sipush, st_jsr_w, st_goto, st_jsr, st_goto_w, st_if_icmp, st_ifCond, st_iadd, st_isub, st_imul, st_idiv, st_irem, st_iand, st_ior, st_ixor, st_ishl, st_ishr, st_iushr, st_ladd, st_lsub, st_lmul, st_ldiv, st_lrem, st_land, st_lor, st_lshl, st_lshr, st_i2l, st_l2i, st_i2b, st_i2s, st_i2c, st_lcmp, st_dup, st_pop, st_dup2, st_pop2, st_getfield, st_getstatic, st_checkcast, st_instanceof, st_putfield, st_putstatic, st_dstore, st_iaload, st_baload, st_laload, st_aaload, st_iastore, st_bastore, st_lastore, st_arraylength, st_dcmpg, st_dcmpl, st_fcmpg, st_fcmpl, st_monitorenter, st_tableswitch, st_multianewarray, st_invokeinterface, st_ireturn, st_lreturn, st_return_, st_ldc, st_ldc_w, st_ldc2_w, st_freturn, st_invokevirtual, st_anewarray0, st_anewarray1, st_anewarray2, st_anewarray3, st_anewarray4, st_anewarray5, st_lookupswitch, popI_c, popL_c, popR_c, popV_c, getI_c, getL_c, getR_c, lg_z, lg_s, ls1_z, ls1_o, ls1_s, ls2_z, ls2_o, ls2_s, noL_i, noL_l, noL_r, isL_i, isL_l, isL_r, tk_z, tk_s, psh_n, psh_s, ent_e, entL_n, entL_c, cc_eq, cc_ne, cc_lt, cc_ge, cc_gt, cc_le, swt_n, swt_c, lsw_n, lsw_c, mPs, NSTR_e, akds, alens, cnts, arfs, inb_e, lcm_lt, lcm_gt, lcm_ge, lcm_le, lcm_eq, lcm_a, lcm_b, Int.reduceToNat, Nat.reduceDiv, Nat.reduceMod, Nat.reduceMul, Nat.reduceAdd, Nat.reduceSub, Nat.reduceLT, Nat.reduceLeDiff, Nat.reduceEqDiff, Int.reduceNeg, Int.reduceAdd, Nat.one_mul, Nat.zero_mul, Nat.add_zero, Nat.zero_add, if_true, if_false, eq_self, true_and, and_true, true_or, or_true, false_or, or_false, List.length_cons, List.length_nil, List.cons_append, List.nil_append, List.replicate_zero, List.replicate_succ, Nat.lt_irrefl, reduceCtorEq, Bool.false_eq_true, in32, in64, Int.reduceLE, Int.reduceLT, Int.reduceEq, Int.reduceNe, not_true_eq_false, not_false_eq_true, true_implies, false_implies, implies_true, false_and, and_false, and_self, b_X1_fewestPapers, r_X1_fewestPapers]
  exact H1 (a 2).toNat 0 _ σ rfl (by decide) (by omega) eqx.rf (fun p' h => by omega)
theorem c_settles (hi : WI σ 0 b lw ll) (hK : ∀ σ', eqx [18, 19] σ σ' → K (some (.inl (stlF (V σ 0 b)))) σ') : Ev (d + 5) 137 [bo] σ K := by
  refine e_X11_settles (Nat.le_of_ble_eq_true rfl) ?_
  simp only [wp_c, st_iload, st_lload, st_aload, st_istore, st_lstore, st_astore, st_iinc, st_sipush, st_jsr_w, st_goto, st_jsr, st_goto_w, st_if_icmp, st_ifCond, st_iadd, st_isub, st_imul, st_idiv, st_irem, st_iand, st_ior, st_ixor, st_ishl, st_ishr, st_iushr, st_ladd, st_lsub, st_lmul, st_ldiv, st_lrem, st_land, st_lor, st_lshl, st_lshr, st_i2l, st_l2i, st_i2b, st_i2s, st_i2c, st_lcmp, st_dup, st_pop, st_dup2, st_pop2, st_getfield, st_getstatic, st_checkcast, st_instanceof, st_putfield, st_putstatic, st_dstore, st_iaload, st_baload, st_laload, st_aaload, st_iastore, st_bastore, st_lastore, st_arraylength, st_dcmpg, st_dcmpl, st_fcmpg, st_fcmpl, st_monitorenter, st_tableswitch, st_multianewarray, st_invokeinterface, st_ireturn, st_lreturn, st_return_, st_ldc, st_ldc_w, st_ldc2_w, st_freturn, st_invokevirtual, st_anewarray0, st_anewarray1, st_anewarray2, st_anewarray3, st_anewarray4, st_anewarray5, st_lookupswitch, popI_c, popL_c, popR_c, popV_c, getI_c, getL_c, getR_c, lg_z, lg_s, ls1_z, ls1_o, ls1_s, ls2_z, ls2_o, ls2_s, noL_i, noL_l, noL_r, isL_i, isL_l, isL_r, tk_z, tk_s, psh_n, psh_s, ent_e, entL_n, entL_c, cc_eq, cc_ne, cc_lt, cc_ge, cc_gt, cc_le, swt_n, swt_c, lsw_n, lsw_c, mPs, NSTR_e, akds, alens, cnts, arfs, inb_e, lcm_lt, lcm_gt, lcm_ge, lcm_le, lcm_eq, lcm_a, lcm_b, Int.reduceToNat, Nat.reduceDiv, Nat.reduceMod, Nat.reduceMul, Nat.reduceAdd, Nat.reduceSub, Nat.reduceLT, Nat.reduceLeDiff, Nat.reduceEqDiff, Int.reduceNeg, Int.reduceAdd, Nat.one_mul, Nat.zero_mul, Nat.add_zero, Nat.zero_add, if_true, if_false, eq_self, true_and, and_true, true_or, or_true, false_or, or_false, List.length_cons, List.length_nil, List.cons_append, List.nil_append, List.replicate_zero, List.replicate_succ, Nat.lt_irrefl, reduceCtorEq, Bool.false_eq_true, in32, in64, Int.reduceLE, Int.reduceLT, Int.reduceEq, Int.reduceNe, not_true_eq_false, not_false_eq_true, true_implies, false_implies, implies_true, false_and, and_false, and_self, b_X11_settles, r_X11_settles]
  (repeat' with_reducible first | apply And.intro | intro _)
  all_goals try omega
  refine c_fewestPapers hi (fun σ1 x1 => ?_)
  simp only [wp_c, st_iload, st_lload, st_aload, st_istore, st_lstore, st_astore, st_iinc, st_sipush, st_jsr_w, st_goto, st_jsr, st_goto_w, st_if_icmp, st_ifCond, st_iadd, st_isub, st_imul, st_idiv, st_irem, st_iand, st_ior, st_ixor, st_ishl, st_ishr, st_iushr, st_ladd, st_lsub, st_lmul, st_ldiv, st_lrem, st_land, st_lor, st_lshl, st_lshr, st_i2l, st_l2i, st_i2b, st_i2s, st_i2c, st_lcmp, st_dup, st_pop, st_dup2, st_pop2, st_getfield, st_getstatic, st_checkcast, st_instanceof, st_putfield, st_putstatic, st_dstore, st_iaload, st_baload, st_laload, st_aaload, st_iastore, st_bastore, st_lastore, st_arraylength, st_dcmpg, st_dcmpl, st_fcmpg, st_fcmpl, st_monitorenter, st_tableswitch, st_multianewarray, st_invokeinterface, st_ireturn, st_lreturn, st_return_, st_ldc, st_ldc_w, st_ldc2_w, st_freturn, st_invokevirtual, st_anewarray0, st_anewarray1, st_anewarray2, st_anewarray3, st_anewarray4, st_anewarray5, st_lookupswitch, popI_c, popL_c, popR_c, popV_c, getI_c, getL_c, getR_c, lg_z, lg_s, ls1_z, ls1_o, ls1_s, ls2_z, ls2_o, ls2_s, noL_i, noL_l, noL_r, isL_i, isL_l, isL_r, tk_z, tk_s, psh_n, psh_s, ent_e, entL_n, entL_c, cc_eq, cc_ne, cc_lt, cc_ge, cc_gt, cc_le, swt_n, swt_c, lsw_n, lsw_c, mPs, NSTR_e, akds, alens, cnts, arfs, inb_e, lcm_lt, lcm_gt, lcm_ge, lcm_le, lcm_eq, lcm_a, lcm_b, Int.reduceToNat, Nat.reduceDiv, Nat.reduceMod, Nat.reduceMul, Nat.reduceAdd, Nat.reduceSub, Nat.reduceLT, Nat.reduceLeDiff, Nat.reduceEqDiff, Int.reduceNeg, Int.reduceAdd, Nat.one_mul, Nat.zero_mul, Nat.add_zero, Nat.zero_add, if_true, if_false, eq_self, true_and, and_true, true_or, or_true, false_or, or_false, List.length_cons, List.length_nil, List.cons_append, List.nil_append, List.replicate_zero, List.replicate_succ, Nat.lt_irrefl, reduceCtorEq, Bool.false_eq_true, in32, in64, Int.reduceLE, Int.reduceLT, Int.reduceEq, Int.reduceNe, not_true_eq_false, not_false_eq_true, true_implies, false_implies, implies_true, false_and, and_false, and_self, b_X11_settles, r_X11_settles]
  (repeat' with_reducible first | apply And.intro | intro _)
  all_goals try omega
  all_goals exact hK σ1 x1
end SETTLEC
