/-! 58: the reference: the least debt of a ring -/
/-- the least of g from k on, n of them, and c -/
def lst (g : Int → Int) : Nat → Int → Int → Int
  | 0, _, c => c
  | n + 1, k, c => lst g n (k + 1) (if g k < c then g k else c)
/-- what the k-th of a ring owes the next one -/
def rg (a : BV) (f : Int → Int) (m k : Int) : Int := dz a (f k) (f ((k + 1) % m))
section LEAST
variable {d : Nat} {σ : Mem} {K : Option AV → Mem → Prop}
theorem q_leastOf {m : Int} {f : Int → Int} (ho : OkA (σ 44 0)) (h21 : σ 12 0 21 = m) (hm : 2 ≤ m ∧ m ≤ 6) (hf : ∀ k : Int, 0 ≤ k → k < m → σ 52 0 k.toNat = f k) (hp : ∀ k : Int, 0 ≤ k → k < m → 0 ≤ f k ∧ f k < 6) (hK : K (some (.inl (lst (rg (σ 44 0) f m) m.toNat 0 268435456))) σ) : Ev (d + 2) 229 [mo] σ K := by
  have H : ∀ (n : Nat) (k c : Int) (x : AV), isL x = false → 0 ≤ k → k + n = m → 0 ≤ c ∧ c ≤ 268435456 → lst (rg (σ 44 0) f m) n k c = lst (rg (σ 44 0) f m) m.toNat 0 268435456 → Rn (d + 2) 229 6 [mo, .inl c, .inl k, x] [] σ K := by
    intro n
    induction n with
    | zero =>
      intro k c x hx h1 h2 h3 ht
      rw [← ht] at hK
      have hK' : K (some (.inl c)) σ := hK
      refine l_X12_leastOf_6 ?_
      simp only [wp_c, st_iload, st_lload, st_aload, st_istore, st_lstore, st_astore, st_iinc, st_sipush, st_jsr_w, st_goto, st_jsr, st_goto_w, st_if_icmp, st_ifCond, st_iadd, st_isub, st_imul, st_idiv, st_irem, st_iand, st_ior, st_ixor, st_ishl, st_ishr, st_iushr, st_ladd, st_lsub, st_lmul, st_ldiv, st_lrem, st_land, st_lor, st_lshl, st_lshr, st_i2l, st_l2i, st_i2b, st_i2s, st_i2c, st_lcmp, st_dup, st_pop, st_dup2, st_pop2, st_getfield, st_getstatic, st_checkcast, st_instanceof, st_putfield, st_putstatic, st_dstore, st_iaload, st_baload, st_laload, st_aaload, st_iastore, st_bastore, st_lastore, st_arraylength, st_dcmpg, st_dcmpl, st_fcmpg, st_fcmpl, st_monitorenter, st_tableswitch, st_multianewarray, st_invokeinterface, st_ireturn, st_lreturn, st_return_, popI_c, popL_c, popR_c, popV_c, getI_c, getL_c, getR_c, lg_z, lg_s, ls1_z, ls1_o, ls1_s, ls2_z, ls2_o, ls2_s, noL_i, noL_l, noL_r, isL_i, isL_l, isL_r, tk_z, tk_s, psh_n, psh_s, ent_e, entL_n, entL_c, cc_eq, cc_ne, cc_lt, cc_ge, cc_gt, cc_le, swt_n, swt_c, akds, alens, cnts, arfs, inb_e, lcm_lt, lcm_gt, lcm_ge, lcm_le, lcm_eq, lcm_a, lcm_b, Int.reduceToNat, Nat.reduceDiv, Nat.reduceMod, Nat.reduceMul, Nat.reduceAdd, Nat.reduceSub, Nat.reduceLT, Nat.reduceLeDiff, Nat.reduceEqDiff, Int.reduceNeg, Int.reduceAdd, Nat.one_mul, Nat.zero_mul, Nat.add_zero, Nat.zero_add, if_true, if_false, eq_self, true_and, and_true, true_or, or_true, false_or, or_false, List.length_cons, List.length_nil, List.cons_append, List.nil_append, List.replicate_zero, List.replicate_succ, Nat.lt_irrefl, reduceCtorEq, Bool.false_eq_true, in32, in64, Int.reduceLE, Int.reduceLT, Int.reduceEq, Int.reduceNe, not_true_eq_false, not_false_eq_true, true_implies, false_implies, implies_true, false_and, and_false, and_self, b_X12_leastOf, r_X12_leastOf, h_X12_leastOf_6, h21, hx]
      (repeat' with_reducible first | apply And.intro | intro _)
      all_goals try omega
      all_goals exact hK'
    | succ n ih =>
      intro k c x hx h1 h2 h3 ht
      simp only [lst] at ht
      have e1 := hf k h1 (by omega)
      have et : (k + 1).tmod m = (k + 1) % m := tm (by omega)
      have hmod : 0 ≤ (k + 1) % m ∧ (k + 1) % m < m := ⟨Int.emod_nonneg _ (by omega), Int.emod_lt_of_pos _ (by omega)⟩
      have e2 := hf ((k + 1) % m) hmod.1 hmod.2
      have p1 := hp k h1 (by omega)
      have p2 := hp ((k + 1) % m) hmod.1 hmod.2
      have bd := ho.debt p1 p2
      have er : rg (σ 44 0) f m k = dz (σ 44 0) (f k) (f ((k + 1) % m)) := rfl
      rw [er] at ht
      refine l_X12_leastOf_6 ?_
      simp only [wp_c, st_iload, st_lload, st_aload, st_istore, st_lstore, st_astore, st_iinc, st_sipush, st_jsr_w, st_goto, st_jsr, st_goto_w, st_if_icmp, st_ifCond, st_iadd, st_isub, st_imul, st_idiv, st_irem, st_iand, st_ior, st_ixor, st_ishl, st_ishr, st_iushr, st_ladd, st_lsub, st_lmul, st_ldiv, st_lrem, st_land, st_lor, st_lshl, st_lshr, st_i2l, st_l2i, st_i2b, st_i2s, st_i2c, st_lcmp, st_dup, st_pop, st_dup2, st_pop2, st_getfield, st_getstatic, st_checkcast, st_instanceof, st_putfield, st_putstatic, st_dstore, st_iaload, st_baload, st_laload, st_aaload, st_iastore, st_bastore, st_lastore, st_arraylength, st_dcmpg, st_dcmpl, st_fcmpg, st_fcmpl, st_monitorenter, st_tableswitch, st_multianewarray, st_invokeinterface, st_ireturn, st_lreturn, st_return_, popI_c, popL_c, popR_c, popV_c, getI_c, getL_c, getR_c, lg_z, lg_s, ls1_z, ls1_o, ls1_s, ls2_z, ls2_o, ls2_s, noL_i, noL_l, noL_r, isL_i, isL_l, isL_r, tk_z, tk_s, psh_n, psh_s, ent_e, entL_n, entL_c, cc_eq, cc_ne, cc_lt, cc_ge, cc_gt, cc_le, swt_n, swt_c, akds, alens, cnts, arfs, inb_e, lcm_lt, lcm_gt, lcm_ge, lcm_le, lcm_eq, lcm_a, lcm_b, Int.reduceToNat, Nat.reduceDiv, Nat.reduceMod, Nat.reduceMul, Nat.reduceAdd, Nat.reduceSub, Nat.reduceLT, Nat.reduceLeDiff, Nat.reduceEqDiff, Int.reduceNeg, Int.reduceAdd, Nat.one_mul, Nat.zero_mul, Nat.add_zero, Nat.zero_add, if_true, if_false, eq_self, true_and, and_true, true_or, or_true, false_or, or_false, List.length_cons, List.length_nil, List.cons_append, List.nil_append, List.replicate_zero, List.replicate_succ, Nat.lt_irrefl, reduceCtorEq, Bool.false_eq_true, in32, in64, Int.reduceLE, Int.reduceLT, Int.reduceEq, Int.reduceNe, not_true_eq_false, not_false_eq_true, true_implies, false_implies, implies_true, false_and, and_false, and_self, b_X12_leastOf, r_X12_leastOf, h_X12_leastOf_6, h21, et, e1, e2]
      (repeat' with_reducible first | apply And.intro | intro _)
      all_goals try omega
      refine q_debt (p := f k) (q := f ((k + 1) % m)) ⟨by omega, by omega⟩ ?_
      have bd2 : 0 ≤ dz (σ 44 0) (f k) (f ((k + 1) % m)) ∧ dz (σ 44 0) (f k) (f ((k + 1) % m)) < 2147483648 := by
        omega
      simp only [wp_c, st_iload, st_lload, st_aload, st_istore, st_lstore, st_astore, st_iinc, st_sipush, st_jsr_w, st_goto, st_jsr, st_goto_w, st_if_icmp, st_ifCond, st_iadd, st_isub, st_imul, st_idiv, st_irem, st_iand, st_ior, st_ixor, st_ishl, st_ishr, st_iushr, st_ladd, st_lsub, st_lmul, st_ldiv, st_lrem, st_land, st_lor, st_lshl, st_lshr, st_i2l, st_l2i, st_i2b, st_i2s, st_i2c, st_lcmp, st_dup, st_pop, st_dup2, st_pop2, st_getfield, st_getstatic, st_checkcast, st_instanceof, st_putfield, st_putstatic, st_dstore, st_iaload, st_baload, st_laload, st_aaload, st_iastore, st_bastore, st_lastore, st_arraylength, st_dcmpg, st_dcmpl, st_fcmpg, st_fcmpl, st_monitorenter, st_tableswitch, st_multianewarray, st_invokeinterface, st_ireturn, st_lreturn, st_return_, popI_c, popL_c, popR_c, popV_c, getI_c, getL_c, getR_c, lg_z, lg_s, ls1_z, ls1_o, ls1_s, ls2_z, ls2_o, ls2_s, noL_i, noL_l, noL_r, isL_i, isL_l, isL_r, tk_z, tk_s, psh_n, psh_s, ent_e, entL_n, entL_c, cc_eq, cc_ne, cc_lt, cc_ge, cc_gt, cc_le, swt_n, swt_c, akds, alens, cnts, arfs, inb_e, lcm_lt, lcm_gt, lcm_ge, lcm_le, lcm_eq, lcm_a, lcm_b, Int.reduceToNat, Nat.reduceDiv, Nat.reduceMod, Nat.reduceMul, Nat.reduceAdd, Nat.reduceSub, Nat.reduceLT, Nat.reduceLeDiff, Nat.reduceEqDiff, Int.reduceNeg, Int.reduceAdd, Nat.one_mul, Nat.zero_mul, Nat.add_zero, Nat.zero_add, if_true, if_false, eq_self, true_and, and_true, true_or, or_true, false_or, or_false, List.length_cons, List.length_nil, List.cons_append, List.nil_append, List.replicate_zero, List.replicate_succ, Nat.lt_irrefl, reduceCtorEq, Bool.false_eq_true, in32, in64, Int.reduceLE, Int.reduceLT, Int.reduceEq, Int.reduceNe, not_true_eq_false, not_false_eq_true, true_implies, false_implies, implies_true, false_and, and_false, and_self, b_X12_leastOf, r_X12_leastOf]
      (repeat' with_reducible first | apply And.intro | intro _)
      all_goals try omega
      · rw [if_neg (by omega)] at ht
        exact ih (k + 1) c _ rfl (by omega) (by omega) h3 ht
      · rw [if_pos (by omega)] at ht
        exact ih (k + 1) _ _ rfl (by omega) (by omega) (by omega) ht
  refine e_X12_leastOf (Nat.le_of_ble_eq_true rfl) ?_
  simp only [wp_c, st_iload, st_lload, st_aload, st_istore, st_lstore, st_astore, st_iinc, st_sipush, st_jsr_w, st_goto, st_jsr, st_goto_w, st_if_icmp, st_ifCond, st_iadd, st_isub, st_imul, st_idiv, st_irem, st_iand, st_ior, st_ixor, st_ishl, st_ishr, st_iushr, st_ladd, st_lsub, st_lmul, st_ldiv, st_lrem, st_land, st_lor, st_lshl, st_lshr, st_i2l, st_l2i, st_i2b, st_i2s, st_i2c, st_lcmp, st_dup, st_pop, st_dup2, st_pop2, st_getfield, st_getstatic, st_checkcast, st_instanceof, st_putfield, st_putstatic, st_dstore, st_iaload, st_baload, st_laload, st_aaload, st_iastore, st_bastore, st_lastore, st_arraylength, st_dcmpg, st_dcmpl, st_fcmpg, st_fcmpl, st_monitorenter, st_tableswitch, st_multianewarray, st_invokeinterface, st_ireturn, st_lreturn, st_return_, popI_c, popL_c, popR_c, popV_c, getI_c, getL_c, getR_c, lg_z, lg_s, ls1_z, ls1_o, ls1_s, ls2_z, ls2_o, ls2_s, noL_i, noL_l, noL_r, isL_i, isL_l, isL_r, tk_z, tk_s, psh_n, psh_s, ent_e, entL_n, entL_c, cc_eq, cc_ne, cc_lt, cc_ge, cc_gt, cc_le, swt_n, swt_c, akds, alens, cnts, arfs, inb_e, lcm_lt, lcm_gt, lcm_ge, lcm_le, lcm_eq, lcm_a, lcm_b, Int.reduceToNat, Nat.reduceDiv, Nat.reduceMod, Nat.reduceMul, Nat.reduceAdd, Nat.reduceSub, Nat.reduceLT, Nat.reduceLeDiff, Nat.reduceEqDiff, Int.reduceNeg, Int.reduceAdd, Nat.one_mul, Nat.zero_mul, Nat.add_zero, Nat.zero_add, if_true, if_false, eq_self, true_and, and_true, true_or, or_true, false_or, or_false, List.length_cons, List.length_nil, List.cons_append, List.nil_append, List.replicate_zero, List.replicate_succ, Nat.lt_irrefl, reduceCtorEq, Bool.false_eq_true, in32, in64, Int.reduceLE, Int.reduceLT, Int.reduceEq, Int.reduceNe, not_true_eq_false, not_false_eq_true, true_implies, false_implies, implies_true, false_and, and_false, and_self, b_X12_leastOf, r_X12_leastOf]
  exact H m.toNat 0 268435456 _ rfl (by omega) (by omega) (by omega) rfl
end LEAST
