/-! 39: deeds told in a row, deeds that are drawn -/
theorem eqL.tr {a b c : BV} (h1 : eqL a b) (h2 : eqL b c) : eqL a c := fun k hk => (h2 k hk).trans (h1 k hk)
theorem doA_all {a : BV} {lw ll : List Int} {v : Int} (ho : OkA a) (hd : a 18 < 1000000000) (hw : whyN a lw ll v = 0) : OkA (doA a v) ∧ eqL a (doA a v) ∧ a 18 ≤ doA a v 18 ∧ doA a v 18 ≤ a 18 + 1 := by
  have hP := ho.P
  have hN := ho.N
  unfold whyN at hw
  unfold doA
  have hr : v = -1 ∨ (0 ≤ v ∧ v ≤ 9) ∨ (10 ≤ v ∧ v ≤ 19) ∨ (100 ≤ v ∧ v ≤ 199) ∨ (200 ≤ v ∧ v ≤ 299) ∨ (300 ≤ v ∧ v ≤ 309) := by
    (repeat' split at hw) <;> omega
  rcases hr with c | c | c | c | c | c
  · rw [if_pos c]
    refine ⟨dayA_ok ho hd, fun k hk => ?_, ?_⟩
    · unfold dayA
      rw [vu_ne (by omega), vu_ne (by omega), vu_ne (by omega)]
    · unfold dayA
      rw [vu_ne (by omega), vu_ne (by omega), vu_eq]
      omega
  · rw [if_neg (by omega), if_pos c] at hw
    obtain ⟨w1, w2, w3⟩ := whyS_0 hw
    rw [if_neg (by omega), if_pos (by omega)]
    refine ⟨stpA_ok ho ⟨by omega, by omega⟩ ⟨by omega, by omega⟩, vu_l (by omega), ?_⟩
    unfold stpA
    rw [vu_ne (by omega)]
    omega
  · rw [if_neg (by omega), if_neg (by omega), if_pos c] at hw
    obtain ⟨w1, w2, w3⟩ := whyS_0 hw
    rw [if_neg (by omega), if_neg (by omega), if_pos (by omega)]
    refine ⟨stpA_ok ho ⟨by omega, by omega⟩ ⟨by omega, by omega⟩, vu_l (by omega), ?_⟩
    unfold stpA
    rw [vu_ne (by omega)]
    omega
  · rw [if_neg (by omega), if_neg (by omega), if_neg (by omega), if_pos c] at hw
    obtain ⟨w1, w2, w3, w4, w5⟩ := whyH_0 hw
    rw [if_neg (by omega), if_neg (by omega), if_neg (by omega), if_pos (by omega)]
    refine ⟨hndA_ok ho ⟨by omega, by omega⟩ ⟨by omega, by omega⟩ w5 (by omega), fun k hk => ?_, ?_⟩
    · unfold hndA
      rw [vu_ne (by omega), vu_ne (by omega)]
    · unfold hndA
      rw [vu_ne (by omega), vu_ne (by omega)]
      omega
  · rw [if_neg (by omega), if_neg (by omega), if_neg (by omega), if_neg (by omega), if_pos c] at hw
    obtain ⟨w1, w2, w3, w4⟩ := whyT_0 hw
    rw [if_neg (by omega), if_neg (by omega), if_neg (by omega), if_neg (by omega), if_pos (by omega)]
    refine ⟨torA_ok ho ⟨by omega, by omega⟩ ⟨by omega, by omega⟩, vu_l (by omega), ?_⟩
    unfold torA
    rw [vu_ne (by omega)]
    omega
  · rw [if_neg (by omega), if_neg (by omega), if_neg (by omega), if_neg (by omega), if_neg (by omega), if_pos c] at hw
    obtain ⟨w1, w2⟩ := whyM_0 hw
    rw [if_neg (by omega), if_neg (by omega), if_neg (by omega), if_neg (by omega), if_neg (by omega)]
    refine ⟨mnd_ok ho w1 w2, mnd_l ⟨by omega, by omega⟩, ?_⟩
    unfold mnd
    split
    · rw [vu_ne (by omega)]
      omega
    · rw [vu_ne (by omega)]
      omega
theorem dn_all {a : BV} {lw ll : List Int} {v : Int} (ho : OkA a) (hd : a 18 < 1000000000) (hw : whyN a lw ll v = 0) : OkA (mBr lw 8 (doA a v)) ∧ eqL a (mBr lw 8 (doA a v)) ∧ a 18 ≤ mBr lw 8 (doA a v) 18 ∧ mBr lw 8 (doA a v) 18 ≤ a 18 + 1 := by
  obtain ⟨h1, h2, h3⟩ := doA_all ho hd hw
  have h4 := mBr_w (lw := lw) 8 h1
  refine ⟨mBr_ok 8 h1, h2.tr h4.1, ?_⟩
  rw [h4.2.2.1]
  exact h3
theorem cif_b {c : Prop} {x y lo hi : Int} (h1 : lo ≤ x ∧ x ≤ hi) (h2 : lo ≤ y ∧ y ≤ hi) : lo ≤ cif c x y ∧ cif c x y ≤ hi := by
  rcases Classical.em c with h | h
  · rw [cif_t h]; exact h1
  · rw [cif_f h]; exact h2
theorem whyN_b {a : BV} {lw ll : List Int} {v : Int} : 0 ≤ whyN a lw ll v ∧ whyN a lw ll v ≤ 4 := by
  have hS : ∀ p b : Int, 0 ≤ whyS a lw ll p b ∧ whyS a lw ll p b ≤ 4 := fun p b => cif_b (by decide) (cif_b (by decide) (cif_b (by decide) (cif_b (by decide) (by decide))))
  have hH : ∀ p b : Int, 0 ≤ whyH a lw ll p b ∧ whyH a lw ll p b ≤ 4 := fun p b => cif_b (by decide) (cif_b (by decide) (cif_b (by decide) (by decide)))
  have hT : ∀ p b : Int, 0 ≤ whyT a p b ∧ whyT a p b ≤ 4 := fun p b => cif_b (by decide) (cif_b (by decide) (by decide))
  have hM : ∀ k : Int, 0 ≤ whyM a k ∧ whyM a k ≤ 4 := fun k => cif_b (by decide) (cif_b (by decide) (by decide))
  unfold whyN
  repeat' split
  all_goals first | exact hS _ _ | exact hH _ _ | exact hT _ _ | exact hM _ | decide
/-- what is told, done till one can't be: how many, why not, what came of it -/
noncomputable def tel (lw ll : List Int) (f : Int → Int) : Nat → Int → BV → Int × Int × BV
  | 0, k, a => (k, 0, a)
  | n + 1, k, a => if whyN a lw ll (f k) = 0 then tel lw ll f n (k + 1) (mBr lw 8 (doA a (f k))) else (k, whyN a lw ll (f k), a)
/-- the reference's numbers that outlive a call -/
def k12 (σ σ' : Mem) : Prop := σ' 12 0 0 = σ 12 0 0 ∧ σ' 12 0 5 = σ 12 0 5 ∧ σ' 12 0 13 = σ 12 0 13 ∧ σ' 12 0 14 = σ 12 0 14
theorem k12.rf {σ : Mem} : k12 σ σ := ⟨rfl, rfl, rfl, rfl⟩
theorem k12.tr {σ σ1 σ2 : Mem} (h1 : k12 σ σ1) (h2 : k12 σ1 σ2) : k12 σ σ2 := ⟨h2.1.trans h1.1, h2.2.1.trans h1.2.1, h2.2.2.1.trans h1.2.2.1, h2.2.2.2.trans h1.2.2.2⟩
theorem k12.mu {σ σ1 : Mem} {j : Nat} {v : Int} (h : k12 σ σ1) (hj : ¬ (j = 0 ∨ j = 5 ∨ j = 13 ∨ j = 14)) : k12 σ (mu σ1 12 0 j v) := by
  unfold k12
  simp only [mu_at]
  rw [if_neg (by omega), if_neg (by omega), if_neg (by omega), if_neg (by omega)]
  exact h
theorem k12.x {σ σ1 σ2 : Mem} {L : List Nat} (h : k12 σ σ1) (hx : eqx L σ1 σ2) (hL : 12 ∉ L) : k12 σ σ2 := by
  unfold k12
  rw [hx 12 hL]
  exact h
def drnV (x : Int) : Int := if dval x 6 = 0 then -1 else if dval x 6 < 4 then dval (drw x) 6 else 100 * (dval x 6 - 3) + 10 * dval (drw x) 6 + dval (drw (drw x)) 6
def drnX (x : Int) : Int := if dval x 6 = 0 then drw x else if dval x 6 < 4 then drw (drw x) else drw (drw (drw x))
def drnA (a : BV) : BV := vu a 20 (drnX (a 20))
theorem vu_vu {a : BV} {k : Nat} {v u : Int} : vu (vu a k v) k u = vu a k u := by
  funext j
  unfold vu
  split <;> rfl
theorem drnA_ok {a : BV} (ho : OkA a) : OkA (drnA a) := vu_ok ho (Or.inr (Or.inr (Or.inl rfl)))
section TELLS
variable {d : Nat} {σ : Mem} {K : Option AV → Mem → Prop}
theorem q_drawn (hK : ∀ σ', eqx [44] σ σ' → σ' 44 0 = drnA (σ 44 0) → K (some (.inl (drnV (σ 44 0 20)))) σ') : Ev (d + 2) 246 [mo] σ K := by
  unfold drnA drnX drnV at hK
  have b1 := dval_b (x := σ 44 0 20) (b := 6) (by decide)
  have b2 := dval_b (x := drw (σ 44 0 20)) (b := 6) (by decide)
  have e1 : mu σ 44 0 20 (drw (σ 44 0 20)) 44 0 20 = drw (σ 44 0 20) := by rw [mu_at, if_pos rfl]
  have e2 : mu (mu σ 44 0 20 (drw (σ 44 0 20))) 44 0 20 (drw (drw (σ 44 0 20))) 44 0 20 = drw (drw (σ 44 0 20)) := by rw [mu_at, if_pos rfl]
  refine e_X12_drawn (Nat.le_of_ble_eq_true rfl) ?_
  simp only [wp_c, st_iload, st_lload, st_aload, st_istore, st_lstore, st_astore, st_iinc, st_sipush, st_jsr_w, st_goto, st_jsr, st_goto_w, st_if_icmp, st_ifCond, st_iadd, st_isub, st_imul, st_idiv, st_irem, st_iand, st_ior, st_ixor, st_ishl, st_ishr, st_iushr, st_ladd, st_lsub, st_lmul, st_ldiv, st_lrem, st_land, st_lor, st_lshl, st_lshr, st_i2l, st_l2i, st_i2b, st_i2s, st_i2c, st_lcmp, st_dup, st_pop, st_dup2, st_pop2, st_getfield, st_getstatic, st_checkcast, st_instanceof, st_putfield, st_putstatic, st_dstore, st_iaload, st_baload, st_laload, st_aaload, st_iastore, st_bastore, st_lastore, st_arraylength, st_dcmpg, st_dcmpl, st_fcmpg, st_fcmpl, st_monitorenter, st_tableswitch, st_multianewarray, st_invokeinterface, st_ireturn, st_lreturn, st_return_, st_ldc, st_ldc_w, st_ldc2_w, st_freturn, st_invokevirtual, st_anewarray0, st_anewarray1, st_anewarray2, st_anewarray3, st_anewarray4, st_anewarray5, st_lookupswitch, popI_c, popL_c, popR_c, popV_c, getI_c, getL_c, getR_c, lg_z, lg_s, ls1_z, ls1_o, ls1_s, ls2_z, ls2_o, ls2_s, noL_i, noL_l, noL_r, isL_i, isL_l, isL_r, tk_z, tk_s, psh_n, psh_s, ent_e, entL_n, entL_c, cc_eq, cc_ne, cc_lt, cc_ge, cc_gt, cc_le, swt_n, swt_c, lsw_n, lsw_c, mPs, NSTR_e, akds, alens, cnts, arfs, inb_e, lcm_lt, lcm_gt, lcm_ge, lcm_le, lcm_eq, lcm_a, lcm_b, Int.reduceToNat, Nat.reduceDiv, Nat.reduceMod, Nat.reduceMul, Nat.reduceAdd, Nat.reduceSub, Nat.reduceLT, Nat.reduceLeDiff, Nat.reduceEqDiff, Int.reduceNeg, Int.reduceAdd, Nat.one_mul, Nat.zero_mul, Nat.add_zero, Nat.zero_add, if_true, if_false, eq_self, true_and, and_true, true_or, or_true, false_or, or_false, List.length_cons, List.length_nil, List.cons_append, List.nil_append, List.replicate_zero, List.replicate_succ, Nat.lt_irrefl, reduceCtorEq, Bool.false_eq_true, in32, in64, Int.reduceLE, Int.reduceLT, Int.reduceEq, Int.reduceNe, not_true_eq_false, not_false_eq_true, true_implies, false_implies, implies_true, false_and, and_false, and_self, b_X12_drawn, r_X12_drawn]
  (repeat' with_reducible first | apply And.intro | intro _)
  all_goals try omega
  refine q_draw (by decide) ?_
  simp only [wp_c, st_iload, st_lload, st_aload, st_istore, st_lstore, st_astore, st_iinc, st_sipush, st_jsr_w, st_goto, st_jsr, st_goto_w, st_if_icmp, st_ifCond, st_iadd, st_isub, st_imul, st_idiv, st_irem, st_iand, st_ior, st_ixor, st_ishl, st_ishr, st_iushr, st_ladd, st_lsub, st_lmul, st_ldiv, st_lrem, st_land, st_lor, st_lshl, st_lshr, st_i2l, st_l2i, st_i2b, st_i2s, st_i2c, st_lcmp, st_dup, st_pop, st_dup2, st_pop2, st_getfield, st_getstatic, st_checkcast, st_instanceof, st_putfield, st_putstatic, st_dstore, st_iaload, st_baload, st_laload, st_aaload, st_iastore, st_bastore, st_lastore, st_arraylength, st_dcmpg, st_dcmpl, st_fcmpg, st_fcmpl, st_monitorenter, st_tableswitch, st_multianewarray, st_invokeinterface, st_ireturn, st_lreturn, st_return_, st_ldc, st_ldc_w, st_ldc2_w, st_freturn, st_invokevirtual, st_anewarray0, st_anewarray1, st_anewarray2, st_anewarray3, st_anewarray4, st_anewarray5, st_lookupswitch, popI_c, popL_c, popR_c, popV_c, getI_c, getL_c, getR_c, lg_z, lg_s, ls1_z, ls1_o, ls1_s, ls2_z, ls2_o, ls2_s, noL_i, noL_l, noL_r, isL_i, isL_l, isL_r, tk_z, tk_s, psh_n, psh_s, ent_e, entL_n, entL_c, cc_eq, cc_ne, cc_lt, cc_ge, cc_gt, cc_le, swt_n, swt_c, lsw_n, lsw_c, mPs, NSTR_e, akds, alens, cnts, arfs, inb_e, lcm_lt, lcm_gt, lcm_ge, lcm_le, lcm_eq, lcm_a, lcm_b, Int.reduceToNat, Nat.reduceDiv, Nat.reduceMod, Nat.reduceMul, Nat.reduceAdd, Nat.reduceSub, Nat.reduceLT, Nat.reduceLeDiff, Nat.reduceEqDiff, Int.reduceNeg, Int.reduceAdd, Nat.one_mul, Nat.zero_mul, Nat.add_zero, Nat.zero_add, if_true, if_false, eq_self, true_and, and_true, true_or, or_true, false_or, or_false, List.length_cons, List.length_nil, List.cons_append, List.nil_append, List.replicate_zero, List.replicate_succ, Nat.lt_irrefl, reduceCtorEq, Bool.false_eq_true, in32, in64, Int.reduceLE, Int.reduceLT, Int.reduceEq, Int.reduceNe, not_true_eq_false, not_false_eq_true, true_implies, false_implies, implies_true, false_and, and_false, and_self, b_X12_drawn, r_X12_drawn]
  (repeat' with_reducible first | apply And.intro | intro _)
  all_goals try omega
  · rename_i c
    simp only [if_neg c] at hK
    refine q_draw (by decide) ?_
    rw [e1]
    simp only [wp_c, st_iload, st_lload, st_aload, st_istore, st_lstore, st_astore, st_iinc, st_sipush, st_jsr_w, st_goto, st_jsr, st_goto_w, st_if_icmp, st_ifCond, st_iadd, st_isub, st_imul, st_idiv, st_irem, st_iand, st_ior, st_ixor, st_ishl, st_ishr, st_iushr, st_ladd, st_lsub, st_lmul, st_ldiv, st_lrem, st_land, st_lor, st_lshl, st_lshr, st_i2l, st_l2i, st_i2b, st_i2s, st_i2c, st_lcmp, st_dup, st_pop, st_dup2, st_pop2, st_getfield, st_getstatic, st_checkcast, st_instanceof, st_putfield, st_putstatic, st_dstore, st_iaload, st_baload, st_laload, st_aaload, st_iastore, st_bastore, st_lastore, st_arraylength, st_dcmpg, st_dcmpl, st_fcmpg, st_fcmpl, st_monitorenter, st_tableswitch, st_multianewarray, st_invokeinterface, st_ireturn, st_lreturn, st_return_, st_ldc, st_ldc_w, st_ldc2_w, st_freturn, st_invokevirtual, st_anewarray0, st_anewarray1, st_anewarray2, st_anewarray3, st_anewarray4, st_anewarray5, st_lookupswitch, popI_c, popL_c, popR_c, popV_c, getI_c, getL_c, getR_c, lg_z, lg_s, ls1_z, ls1_o, ls1_s, ls2_z, ls2_o, ls2_s, noL_i, noL_l, noL_r, isL_i, isL_l, isL_r, tk_z, tk_s, psh_n, psh_s, ent_e, entL_n, entL_c, cc_eq, cc_ne, cc_lt, cc_ge, cc_gt, cc_le, swt_n, swt_c, lsw_n, lsw_c, mPs, NSTR_e, akds, alens, cnts, arfs, inb_e, lcm_lt, lcm_gt, lcm_ge, lcm_le, lcm_eq, lcm_a, lcm_b, Int.reduceToNat, Nat.reduceDiv, Nat.reduceMod, Nat.reduceMul, Nat.reduceAdd, Nat.reduceSub, Nat.reduceLT, Nat.reduceLeDiff, Nat.reduceEqDiff, Int.reduceNeg, Int.reduceAdd, Nat.one_mul, Nat.zero_mul, Nat.add_zero, Nat.zero_add, if_true, if_false, eq_self, true_and, and_true, true_or, or_true, false_or, or_false, List.length_cons, List.length_nil, List.cons_append, List.nil_append, List.replicate_zero, List.replicate_succ, Nat.lt_irrefl, reduceCtorEq, Bool.false_eq_true, in32, in64, Int.reduceLE, Int.reduceLT, Int.reduceEq, Int.reduceNe, not_true_eq_false, not_false_eq_true, true_implies, false_implies, implies_true, false_and, and_false, and_self, b_X12_drawn, r_X12_drawn]
    (repeat' with_reducible first | apply And.intro | intro _)
    all_goals try omega
    · rename_i c2
      simp only [if_neg (show ¬ dval (σ 44 0 20) 6 < 4 by omega)] at hK
      refine q_draw (by decide) ?_
      rw [e2]
      simp only [wp_c, st_iload, st_lload, st_aload, st_istore, st_lstore, st_astore, st_iinc, st_sipush, st_jsr_w, st_goto, st_jsr, st_goto_w, st_if_icmp, st_ifCond, st_iadd, st_isub, st_imul, st_idiv, st_irem, st_iand, st_ior, st_ixor, st_ishl, st_ishr, st_iushr, st_ladd, st_lsub, st_lmul, st_ldiv, st_lrem, st_land, st_lor, st_lshl, st_lshr, st_i2l, st_l2i, st_i2b, st_i2s, st_i2c, st_lcmp, st_dup, st_pop, st_dup2, st_pop2, st_getfield, st_getstatic, st_checkcast, st_instanceof, st_putfield, st_putstatic, st_dstore, st_iaload, st_baload, st_laload, st_aaload, st_iastore, st_bastore, st_lastore, st_arraylength, st_dcmpg, st_dcmpl, st_fcmpg, st_fcmpl, st_monitorenter, st_tableswitch, st_multianewarray, st_invokeinterface, st_ireturn, st_lreturn, st_return_, st_ldc, st_ldc_w, st_ldc2_w, st_freturn, st_invokevirtual, st_anewarray0, st_anewarray1, st_anewarray2, st_anewarray3, st_anewarray4, st_anewarray5, st_lookupswitch, popI_c, popL_c, popR_c, popV_c, getI_c, getL_c, getR_c, lg_z, lg_s, ls1_z, ls1_o, ls1_s, ls2_z, ls2_o, ls2_s, noL_i, noL_l, noL_r, isL_i, isL_l, isL_r, tk_z, tk_s, psh_n, psh_s, ent_e, entL_n, entL_c, cc_eq, cc_ne, cc_lt, cc_ge, cc_gt, cc_le, swt_n, swt_c, lsw_n, lsw_c, mPs, NSTR_e, akds, alens, cnts, arfs, inb_e, lcm_lt, lcm_gt, lcm_ge, lcm_le, lcm_eq, lcm_a, lcm_b, Int.reduceToNat, Nat.reduceDiv, Nat.reduceMod, Nat.reduceMul, Nat.reduceAdd, Nat.reduceSub, Nat.reduceLT, Nat.reduceLeDiff, Nat.reduceEqDiff, Int.reduceNeg, Int.reduceAdd, Nat.one_mul, Nat.zero_mul, Nat.add_zero, Nat.zero_add, if_true, if_false, eq_self, true_and, and_true, true_or, or_true, false_or, or_false, List.length_cons, List.length_nil, List.cons_append, List.nil_append, List.replicate_zero, List.replicate_succ, Nat.lt_irrefl, reduceCtorEq, Bool.false_eq_true, in32, in64, Int.reduceLE, Int.reduceLT, Int.reduceEq, Int.reduceNe, not_true_eq_false, not_false_eq_true, true_implies, false_implies, implies_true, false_and, and_false, and_self, b_X12_drawn, r_X12_drawn]
      (repeat' with_reducible first | apply And.intro | intro _)
      all_goals try omega
      all_goals exact hK _ (eqx_mu (eqx_mu (eqx_mu eqx.rf (by decide)) (by decide)) (by decide)) (by rw [mu_vu, mu_vu, mu_vu, vu_vu, vu_vu])
    · rename_i c2
      simp only [if_pos (show dval (σ 44 0 20) 6 < 4 by omega)] at hK
      exact hK _ (eqx_mu (eqx_mu eqx.rf (by decide)) (by decide)) (by rw [mu_vu, mu_vu, vu_vu])
  · simp only [if_pos (show dval (σ 44 0 20) 6 = 0 by omega)] at hK
    exact hK _ (eqx_mu eqx.rf (by decide)) (by rw [mu_vu])
theorem q_tells {t : Int} (ht : 0 ≤ t ∧ t < 4) (hm : 0 ≤ σ 57 0 t.toNat ∧ σ 57 0 t.toNat ≤ 40) (hn : ∀ k : Int, 0 ≤ k → k < 40 → in64 (σ 58 0 (40 * t + k).toNat)) (ho : OkA (σ 44 0)) (hl : LawA (σ 44 0)) (hd : σ 44 0 18 + 40 < 1000000000)
    (hK : ∀ σ', eqx [12, 44, 48, 49, 50] σ σ' → k12 σ σ' → (σ' 12 0 22, σ' 44 0) = (tel (lawR (σ 44 0) 0) (lawR (σ 44 0) 1) (fun k => σ 58 0 (40 * t + k).toNat) (σ 57 0 t.toNat).toNat 0 (σ 44 0)).2 → K (some (.inl (tel (lawR (σ 44 0) 0) (lawR (σ 44 0) 1) (fun k => σ 58 0 (40 * t + k).toNat) (σ 57 0 t.toNat).toNat 0 (σ 44 0)).1)) σ') : Ev (d + 8) 238 [mo, .inl t] σ K := by
  generalize em : σ 57 0 t.toNat = m at hm hK
  have H : ∀ (n : Nat) (k : Int) (σc : Mem), 0 ≤ k → k + n = m → eqx [12, 44, 48, 49, 50] σ σc → k12 σ σc → σc 12 0 22 = 0 → OkA (σc 44 0) → eqL (σ 44 0) (σc 44 0) → σc 44 0 18 + n < 1000000000 → (∀ σ', eqx [12, 44, 48, 49, 50] σ σ' → k12 σ σ' → (σ' 12 0 22, σ' 44 0) = (tel (lawR (σ 44 0) 0) (lawR (σ 44 0) 1) (fun k => σ 58 0 (40 * t + k).toNat) n k (σc 44 0)).2 → K (some (.inl (tel (lawR (σ 44 0) 0) (lawR (σ 44 0) 1) (fun k => σ 58 0 (40 * t + k).toNat) n k (σc 44 0)).1)) σ') → Rn (d + 8) 238 7 [mo, .inl t, .inl k] [] σc K := by
    intro n
    induction n with
    | zero =>
      intro k σc hk hkm hx h12 h22 hoc hlc hdc hKc
      have e57 : σc 57 0 t.toNat = m := by rw [hx 57 (by decide), em]
      have := hKc σc hx h12 (by rw [h22]; rfl)
      refine l_X12_tells_7 ?_
      simp only [wp_c, st_iload, st_lload, st_aload, st_istore, st_lstore, st_astore, st_iinc, st_sipush, st_jsr_w, st_goto, st_jsr, st_goto_w, st_if_icmp, st_ifCond, st_iadd, st_isub, st_imul, st_idiv, st_irem, st_iand, st_ior, st_ixor, st_ishl, st_ishr, st_iushr, st_ladd, st_lsub, st_lmul, st_ldiv, st_lrem, st_land, st_lor, st_lshl, st_lshr, st_i2l, st_l2i, st_i2b, st_i2s, st_i2c, st_lcmp, st_dup, st_pop, st_dup2, st_pop2, st_getfield, st_getstatic, st_checkcast, st_instanceof, st_putfield, st_putstatic, st_dstore, st_iaload, st_baload, st_laload, st_aaload, st_iastore, st_bastore, st_lastore, st_arraylength, st_dcmpg, st_dcmpl, st_fcmpg, st_fcmpl, st_monitorenter, st_tableswitch, st_multianewarray, st_invokeinterface, st_ireturn, st_lreturn, st_return_, st_ldc, st_ldc_w, st_ldc2_w, st_freturn, st_invokevirtual, st_anewarray0, st_anewarray1, st_anewarray2, st_anewarray3, st_anewarray4, st_anewarray5, st_lookupswitch, popI_c, popL_c, popR_c, popV_c, getI_c, getL_c, getR_c, lg_z, lg_s, ls1_z, ls1_o, ls1_s, ls2_z, ls2_o, ls2_s, noL_i, noL_l, noL_r, isL_i, isL_l, isL_r, tk_z, tk_s, psh_n, psh_s, ent_e, entL_n, entL_c, cc_eq, cc_ne, cc_lt, cc_ge, cc_gt, cc_le, swt_n, swt_c, lsw_n, lsw_c, mPs, NSTR_e, akds, alens, cnts, arfs, inb_e, lcm_lt, lcm_gt, lcm_ge, lcm_le, lcm_eq, lcm_a, lcm_b, Int.reduceToNat, Nat.reduceDiv, Nat.reduceMod, Nat.reduceMul, Nat.reduceAdd, Nat.reduceSub, Nat.reduceLT, Nat.reduceLeDiff, Nat.reduceEqDiff, Int.reduceNeg, Int.reduceAdd, Nat.one_mul, Nat.zero_mul, Nat.add_zero, Nat.zero_add, if_true, if_false, eq_self, true_and, and_true, true_or, or_true, false_or, or_false, List.length_cons, List.length_nil, List.cons_append, List.nil_append, List.replicate_zero, List.replicate_succ, Nat.lt_irrefl, reduceCtorEq, Bool.false_eq_true, in32, in64, Int.reduceLE, Int.reduceLT, Int.reduceEq, Int.reduceNe, not_true_eq_false, not_false_eq_true, true_implies, false_implies, implies_true, false_and, and_false, and_self, b_X12_tells, r_X12_tells, h_X12_tells_7, e57]
      (repeat' with_reducible first | apply And.intro | intro _)
      all_goals try omega
      all_goals (have e : k = m := by omega)
      all_goals subst e
      all_goals exact this
    | succ n ih =>
      intro k σc hk hkm hx h12 h22 hoc hlc hdc hKc
      have e57 : σc 57 0 t.toNat = m := by rw [hx 57 (by decide), em]
      have e58 : σc 58 0 (40 * t + k).toNat = σ 58 0 (40 * t + k).toNat := by rw [hx 58 (by decide)]
      have lw0 := lawR_l hlc (law := 0) (by decide)
      have lw1 := lawR_l hlc (law := 1) (by decide)
      have hlac := LawA_l hlc hl
      have hv := hn k hk (by omega)
      unfold tel at hKc
      refine l_X12_tells_7 ?_
      simp only [wp_c, st_iload, st_lload, st_aload, st_istore, st_lstore, st_astore, st_iinc, st_sipush, st_jsr_w, st_goto, st_jsr, st_goto_w, st_if_icmp, st_ifCond, st_iadd, st_isub, st_imul, st_idiv, st_irem, st_iand, st_ior, st_ixor, st_ishl, st_ishr, st_iushr, st_ladd, st_lsub, st_lmul, st_ldiv, st_lrem, st_land, st_lor, st_lshl, st_lshr, st_i2l, st_l2i, st_i2b, st_i2s, st_i2c, st_lcmp, st_dup, st_pop, st_dup2, st_pop2, st_getfield, st_getstatic, st_checkcast, st_instanceof, st_putfield, st_putstatic, st_dstore, st_iaload, st_baload, st_laload, st_aaload, st_iastore, st_bastore, st_lastore, st_arraylength, st_dcmpg, st_dcmpl, st_fcmpg, st_fcmpl, st_monitorenter, st_tableswitch, st_multianewarray, st_invokeinterface, st_ireturn, st_lreturn, st_return_, st_ldc, st_ldc_w, st_ldc2_w, st_freturn, st_invokevirtual, st_anewarray0, st_anewarray1, st_anewarray2, st_anewarray3, st_anewarray4, st_anewarray5, st_lookupswitch, popI_c, popL_c, popR_c, popV_c, getI_c, getL_c, getR_c, lg_z, lg_s, ls1_z, ls1_o, ls1_s, ls2_z, ls2_o, ls2_s, noL_i, noL_l, noL_r, isL_i, isL_l, isL_r, tk_z, tk_s, psh_n, psh_s, ent_e, entL_n, entL_c, cc_eq, cc_ne, cc_lt, cc_ge, cc_gt, cc_le, swt_n, swt_c, lsw_n, lsw_c, mPs, NSTR_e, akds, alens, cnts, arfs, inb_e, lcm_lt, lcm_gt, lcm_ge, lcm_le, lcm_eq, lcm_a, lcm_b, Int.reduceToNat, Nat.reduceDiv, Nat.reduceMod, Nat.reduceMul, Nat.reduceAdd, Nat.reduceSub, Nat.reduceLT, Nat.reduceLeDiff, Nat.reduceEqDiff, Int.reduceNeg, Int.reduceAdd, Nat.one_mul, Nat.zero_mul, Nat.add_zero, Nat.zero_add, if_true, if_false, eq_self, true_and, and_true, true_or, or_true, false_or, or_false, List.length_cons, List.length_nil, List.cons_append, List.nil_append, List.replicate_zero, List.replicate_succ, Nat.lt_irrefl, reduceCtorEq, Bool.false_eq_true, in32, in64, Int.reduceLE, Int.reduceLT, Int.reduceEq, Int.reduceNe, not_true_eq_false, not_false_eq_true, true_implies, false_implies, implies_true, false_and, and_false, and_self, b_X12_tells, r_X12_tells, h_X12_tells_7, e57, e58]
      (repeat' with_reducible first | apply And.intro | intro _)
      all_goals try omega
      generalize σ 58 0 (40 * t + k).toNat = v at hv e58 hKc ⊢
      refine q_whyNot hv hoc hlac (fun σ1 x1 => ?_)
      rw [lw0, lw1]
      have a1 : σ1 44 = σc 44 := x1 44 (by decide)
      have x2 : eqx [12, 44, 48, 49, 50] σ σ1 := hx.tr (x1.wd (by decide))
      have e44 : ∀ z : Int, mu σ1 12 0 22 z 44 = σc 44 := fun z => by rw [mu_k (by decide), a1]
      have e58b : ∀ z : Int, mu σ1 12 0 22 z 58 0 (40 * t + k).toNat = v := fun z => by rw [mu_k (by decide), x1 58 (by decide), e58]
      have e12 : σ1 12 = σc 12 := x1 12 (by decide)
      have wb := whyN_b (a := σc 44 0) (lw := lawR (σ 44 0) 0) (ll := lawR (σ 44 0) 1) (v := v)
      simp only [wp_c, st_iload, st_lload, st_aload, st_istore, st_lstore, st_astore, st_iinc, st_sipush, st_jsr_w, st_goto, st_jsr, st_goto_w, st_if_icmp, st_ifCond, st_iadd, st_isub, st_imul, st_idiv, st_irem, st_iand, st_ior, st_ixor, st_ishl, st_ishr, st_iushr, st_ladd, st_lsub, st_lmul, st_ldiv, st_lrem, st_land, st_lor, st_lshl, st_lshr, st_i2l, st_l2i, st_i2b, st_i2s, st_i2c, st_lcmp, st_dup, st_pop, st_dup2, st_pop2, st_getfield, st_getstatic, st_checkcast, st_instanceof, st_putfield, st_putstatic, st_dstore, st_iaload, st_baload, st_laload, st_aaload, st_iastore, st_bastore, st_lastore, st_arraylength, st_dcmpg, st_dcmpl, st_fcmpg, st_fcmpl, st_monitorenter, st_tableswitch, st_multianewarray, st_invokeinterface, st_ireturn, st_lreturn, st_return_, st_ldc, st_ldc_w, st_ldc2_w, st_freturn, st_invokevirtual, st_anewarray0, st_anewarray1, st_anewarray2, st_anewarray3, st_anewarray4, st_anewarray5, st_lookupswitch, popI_c, popL_c, popR_c, popV_c, getI_c, getL_c, getR_c, lg_z, lg_s, ls1_z, ls1_o, ls1_s, ls2_z, ls2_o, ls2_s, noL_i, noL_l, noL_r, isL_i, isL_l, isL_r, tk_z, tk_s, psh_n, psh_s, ent_e, entL_n, entL_c, cc_eq, cc_ne, cc_lt, cc_ge, cc_gt, cc_le, swt_n, swt_c, lsw_n, lsw_c, mPs, NSTR_e, akds, alens, cnts, arfs, inb_e, lcm_lt, lcm_gt, lcm_ge, lcm_le, lcm_eq, lcm_a, lcm_b, Int.reduceToNat, Nat.reduceDiv, Nat.reduceMod, Nat.reduceMul, Nat.reduceAdd, Nat.reduceSub, Nat.reduceLT, Nat.reduceLeDiff, Nat.reduceEqDiff, Int.reduceNeg, Int.reduceAdd, Nat.one_mul, Nat.zero_mul, Nat.add_zero, Nat.zero_add, if_true, if_false, eq_self, true_and, and_true, true_or, or_true, false_or, or_false, List.length_cons, List.length_nil, List.cons_append, List.nil_append, List.replicate_zero, List.replicate_succ, Nat.lt_irrefl, reduceCtorEq, Bool.false_eq_true, in32, in64, Int.reduceLE, Int.reduceLT, Int.reduceEq, Int.reduceNe, not_true_eq_false, not_false_eq_true, true_implies, false_implies, implies_true, false_and, and_false, and_self, b_X12_tells, r_X12_tells, mu_at, if_true, e58b]
      (repeat' with_reducible first | apply And.intro | intro _)
      all_goals try omega
      · rename_i c
        simp only [if_pos (show whyN (σc 44 0) (lawR (σ 44 0) 0) (lawR (σ 44 0) 1) v = 0 by omega)] at hKc
        have dn := dn_all hoc (by omega) (show whyN (σc 44 0) (lawR (σ 44 0) 0) (lawR (σ 44 0) 1) v = 0 by omega)
        refine q_does (by rw [e44]; exact hoc) (by rw [e44]; exact hlac) (by rw [e44]; omega) (by rw [e44, lw0, lw1]; omega) (fun σ3 x3 g3 => ?_)
        rw [e44, lw0] at g3
        have k3 : σ3 12 0 22 = 0 := by
          rw [x3 12 (by decide), mu_at, if_pos rfl]
          omega
        simp only [wp_c, st_iload, st_lload, st_aload, st_istore, st_lstore, st_astore, st_iinc, st_sipush, st_jsr_w, st_goto, st_jsr, st_goto_w, st_if_icmp, st_ifCond, st_iadd, st_isub, st_imul, st_idiv, st_irem, st_iand, st_ior, st_ixor, st_ishl, st_ishr, st_iushr, st_ladd, st_lsub, st_lmul, st_ldiv, st_lrem, st_land, st_lor, st_lshl, st_lshr, st_i2l, st_l2i, st_i2b, st_i2s, st_i2c, st_lcmp, st_dup, st_pop, st_dup2, st_pop2, st_getfield, st_getstatic, st_checkcast, st_instanceof, st_putfield, st_putstatic, st_dstore, st_iaload, st_baload, st_laload, st_aaload, st_iastore, st_bastore, st_lastore, st_arraylength, st_dcmpg, st_dcmpl, st_fcmpg, st_fcmpl, st_monitorenter, st_tableswitch, st_multianewarray, st_invokeinterface, st_ireturn, st_lreturn, st_return_, st_ldc, st_ldc_w, st_ldc2_w, st_freturn, st_invokevirtual, st_anewarray0, st_anewarray1, st_anewarray2, st_anewarray3, st_anewarray4, st_anewarray5, st_lookupswitch, popI_c, popL_c, popR_c, popV_c, getI_c, getL_c, getR_c, lg_z, lg_s, ls1_z, ls1_o, ls1_s, ls2_z, ls2_o, ls2_s, noL_i, noL_l, noL_r, isL_i, isL_l, isL_r, tk_z, tk_s, psh_n, psh_s, ent_e, entL_n, entL_c, cc_eq, cc_ne, cc_lt, cc_ge, cc_gt, cc_le, swt_n, swt_c, lsw_n, lsw_c, mPs, NSTR_e, akds, alens, cnts, arfs, inb_e, lcm_lt, lcm_gt, lcm_ge, lcm_le, lcm_eq, lcm_a, lcm_b, Int.reduceToNat, Nat.reduceDiv, Nat.reduceMod, Nat.reduceMul, Nat.reduceAdd, Nat.reduceSub, Nat.reduceLT, Nat.reduceLeDiff, Nat.reduceEqDiff, Int.reduceNeg, Int.reduceAdd, Nat.one_mul, Nat.zero_mul, Nat.add_zero, Nat.zero_add, if_true, if_false, eq_self, true_and, and_true, true_or, or_true, false_or, or_false, List.length_cons, List.length_nil, List.cons_append, List.nil_append, List.replicate_zero, List.replicate_succ, Nat.lt_irrefl, reduceCtorEq, Bool.false_eq_true, in32, in64, Int.reduceLE, Int.reduceLT, Int.reduceEq, Int.reduceNe, not_true_eq_false, not_false_eq_true, true_implies, false_implies, implies_true, false_and, and_false, and_self, b_X12_tells, r_X12_tells]
        (repeat' with_reducible first | apply And.intro | intro _)
        all_goals try omega
        all_goals refine ih (k + 1) σ3 (by omega) (by omega) ((eqx_mu x2 (by decide)).tr (x3.wd (by decide))) (((h12.x x1 (by decide)).mu (by decide)).x x3 (by decide)) k3 (by rw [g3]; exact dn.1) (by rw [g3]; exact hlc.tr dn.2.1) (by rw [g3]; omega) (by rw [g3]; exact hKc)
      · rename_i c
        simp only [if_neg c] at hKc
        exact hKc _ (eqx_mu x2 (by decide)) ((h12.x x1 (by decide)).mu (by decide)) (by rw [mu_at, if_pos rfl, e44])
  refine e_X12_tells (Nat.le_of_ble_eq_true rfl) ?_
  simp only [wp_c, st_iload, st_lload, st_aload, st_istore, st_lstore, st_astore, st_iinc, st_sipush, st_jsr_w, st_goto, st_jsr, st_goto_w, st_if_icmp, st_ifCond, st_iadd, st_isub, st_imul, st_idiv, st_irem, st_iand, st_ior, st_ixor, st_ishl, st_ishr, st_iushr, st_ladd, st_lsub, st_lmul, st_ldiv, st_lrem, st_land, st_lor, st_lshl, st_lshr, st_i2l, st_l2i, st_i2b, st_i2s, st_i2c, st_lcmp, st_dup, st_pop, st_dup2, st_pop2, st_getfield, st_getstatic, st_checkcast, st_instanceof, st_putfield, st_putstatic, st_dstore, st_iaload, st_baload, st_laload, st_aaload, st_iastore, st_bastore, st_lastore, st_arraylength, st_dcmpg, st_dcmpl, st_fcmpg, st_fcmpl, st_monitorenter, st_tableswitch, st_multianewarray, st_invokeinterface, st_ireturn, st_lreturn, st_return_, st_ldc, st_ldc_w, st_ldc2_w, st_freturn, st_invokevirtual, st_anewarray0, st_anewarray1, st_anewarray2, st_anewarray3, st_anewarray4, st_anewarray5, st_lookupswitch, popI_c, popL_c, popR_c, popV_c, getI_c, getL_c, getR_c, lg_z, lg_s, ls1_z, ls1_o, ls1_s, ls2_z, ls2_o, ls2_s, noL_i, noL_l, noL_r, isL_i, isL_l, isL_r, tk_z, tk_s, psh_n, psh_s, ent_e, entL_n, entL_c, cc_eq, cc_ne, cc_lt, cc_ge, cc_gt, cc_le, swt_n, swt_c, lsw_n, lsw_c, mPs, NSTR_e, akds, alens, cnts, arfs, inb_e, lcm_lt, lcm_gt, lcm_ge, lcm_le, lcm_eq, lcm_a, lcm_b, Int.reduceToNat, Nat.reduceDiv, Nat.reduceMod, Nat.reduceMul, Nat.reduceAdd, Nat.reduceSub, Nat.reduceLT, Nat.reduceLeDiff, Nat.reduceEqDiff, Int.reduceNeg, Int.reduceAdd, Nat.one_mul, Nat.zero_mul, Nat.add_zero, Nat.zero_add, if_true, if_false, eq_self, true_and, and_true, true_or, or_true, false_or, or_false, List.length_cons, List.length_nil, List.cons_append, List.nil_append, List.replicate_zero, List.replicate_succ, Nat.lt_irrefl, reduceCtorEq, Bool.false_eq_true, in32, in64, Int.reduceLE, Int.reduceLT, Int.reduceEq, Int.reduceNe, not_true_eq_false, not_false_eq_true, true_implies, false_implies, implies_true, false_and, and_false, and_self, b_X12_tells, r_X12_tells]
  refine H m.toNat 0 _ (Int.le_refl _) (by omega) (eqx_mu eqx.rf (by decide)) (k12.mu k12.rf (by decide)) (by rw [mu_at, if_pos rfl]) ?_ ?_ ?_ ?_
  all_goals rw [mu_k (K' := 44) (by decide)]
  · exact ho
  · exact fun _ _ => rfl
  · omega
  · exact hK
end TELLS
