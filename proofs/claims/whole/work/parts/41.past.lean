/-! 41: the class: what can be undone -/
abbrev so (n : Nat) : AV := .inr (.inr (some (7, n)))
abbrev po : AV := .inr (.inr (some (2, 0)))
/-- a state's row, in the reference's order -/
def stt (σ : Mem) (n : Nat) (j : Nat) : Int := if j = 0 then σ 7 n 4 else if j = 1 then σ 7 n 5 else if j = 2 then σ 7 n 6 else if j = 3 then σ 7 n 3 else if j < 12 then σ 35 n (j - 4) else if j < 18 then σ 33 n (j - 12) else σ 34 n (j - 18)
theorem V_stt {σ : Mem} {w : Nat} {b : BV} {j : Nat} (h : j < 54) : V σ w b (18 + j) = stt σ w j := by
  unfold V stt
  rw [if_neg (by omega), if_neg (by omega), if_neg (by omega), if_neg (by omega), if_neg (by omega), if_neg (by omega)]
  by_cases c : j < 4
  · have : j = 0 ∨ j = 1 ∨ j = 2 ∨ j = 3 := by omega
    rcases this with rfl | rfl | rfl | rfl <;> simp
  · rw [if_neg (by omega), if_neg (by omega), if_neg (by omega), if_neg (by omega), if_neg (show ¬ j = 0 by omega), if_neg (show ¬ j = 1 by omega), if_neg (show ¬ j = 2 by omega), if_neg (show ¬ j = 3 by omega)]
    by_cases c2 : j < 12
    · rw [if_pos (by omega), if_pos c2, show 18 + j - 22 = j - 4 by omega]
    · rw [if_neg (by omega), if_neg c2]
      by_cases c3 : j < 18
      · rw [if_pos (by omega), if_pos c3, show 18 + j - 30 = j - 12 by omega]
      · rw [if_neg (by omega), if_neg c3, if_pos (by omega), show 18 + j - 36 = j - 18 by omega]
theorem stt_i {σ σ' : Mem} {L M : List Nat} {w n : Nat} (h : eqi L M w σ σ') (hL : 7 ∉ L ∧ 33 ∉ L ∧ 34 ∉ L ∧ 35 ∉ L) (hn : ¬ n = w) (j : Nat) : stt σ' n j = stt σ n j := by
  unfold stt
  rw [h 7 n hL.1 (fun x => hn x.2), h 33 n hL.2.1 (fun x => hn x.2), h 34 n hL.2.2.1 (fun x => hn x.2), h 35 n hL.2.2.2 (fun x => hn x.2)]
theorem stt_x {σ σ' : Mem} {L : List Nat} {n : Nat} (h : eqx L σ σ') (hL : 7 ∉ L ∧ 33 ∉ L ∧ 34 ∉ L ∧ 35 ∉ L) (j : Nat) : stt σ' n j = stt σ n j := by
  unfold stt
  rw [h 7 hL.1, h 33 hL.2.1, h 34 hL.2.2.1, h 35 hL.2.2.2]
theorem eqi_mcp {L M : List Nat} {w : Nat} {σ σ1 : Mem} {K0 i0 K1 sp dp n : Nat} (h : eqi L M w σ σ1) (hk : K1 ∈ M) : eqi L M w σ (mcp σ1 K0 i0 K1 w sp dp n) := fun K' i a b => by
  rw [← h K' i a b]
  funext c
  unfold mcp
  rw [if_neg (fun x => b ⟨by rw [x.1]; exact hk, x.2.1⟩)]
section PAST
variable {d : Nat} {σ : Mem} {K : Option AV → Mem → Prop}
theorem c_take {n m : Nat} (hn : n < 15) (hm : m < 15) (hK : ∀ σ', eqi [] [7, 33, 34, 35] n σ σ' → (∀ j : Nat, j < 54 → stt σ' n j = stt σ m j) → K none σ') : Ev (d + 1) 62 [so n, so m] σ K := by
  refine e_X7_take (Nat.le_of_ble_eq_true rfl) ?_
  simp only [wp_c, st_iload, st_lload, st_aload, st_istore, st_lstore, st_astore, st_iinc, st_sipush, st_jsr_w, st_goto, st_jsr, st_goto_w, st_if_icmp, st_ifCond, st_iadd, st_isub, st_imul, st_idiv, st_irem, st_iand, st_ior, st_ixor, st_ishl, st_ishr, st_iushr, st_ladd, st_lsub, st_lmul, st_ldiv, st_lrem, st_land, st_lor, st_lshl, st_lshr, st_i2l, st_l2i, st_i2b, st_i2s, st_i2c, st_lcmp, st_dup, st_pop, st_dup2, st_pop2, st_getfield, st_getstatic, st_checkcast, st_instanceof, st_putfield, st_putstatic, st_dstore, st_iaload, st_baload, st_laload, st_aaload, st_iastore, st_bastore, st_lastore, st_arraylength, st_dcmpg, st_dcmpl, st_fcmpg, st_fcmpl, st_monitorenter, st_tableswitch, st_multianewarray, st_invokeinterface, st_ireturn, st_lreturn, st_return_, st_ldc, st_ldc_w, st_ldc2_w, st_freturn, st_invokevirtual, st_anewarray0, st_anewarray1, st_anewarray2, st_anewarray3, st_anewarray4, st_anewarray5, st_lookupswitch, popI_c, popL_c, popR_c, popV_c, getI_c, getL_c, getR_c, lg_z, lg_s, ls1_z, ls1_o, ls1_s, ls2_z, ls2_o, ls2_s, noL_i, noL_l, noL_r, isL_i, isL_l, isL_r, tk_z, tk_s, psh_n, psh_s, ent_e, entL_n, entL_c, cc_eq, cc_ne, cc_lt, cc_ge, cc_gt, cc_le, swt_n, swt_c, lsw_n, lsw_c, mPs, NSTR_e, akds, alens, cnts, arfs, inb_e, lcm_lt, lcm_gt, lcm_ge, lcm_le, lcm_eq, lcm_a, lcm_b, Int.reduceToNat, Nat.reduceDiv, Nat.reduceMod, Nat.reduceMul, Nat.reduceAdd, Nat.reduceSub, Nat.reduceLT, Nat.reduceLeDiff, Nat.reduceEqDiff, Int.reduceNeg, Int.reduceAdd, Nat.one_mul, Nat.zero_mul, Nat.add_zero, Nat.zero_add, if_true, if_false, eq_self, true_and, and_true, true_or, or_true, false_or, or_false, List.length_cons, List.length_nil, List.cons_append, List.nil_append, List.replicate_zero, List.replicate_succ, Nat.lt_irrefl, reduceCtorEq, Bool.false_eq_true, in32, in64, Int.reduceLE, Int.reduceLT, Int.reduceEq, Int.reduceNe, not_true_eq_false, not_false_eq_true, true_implies, false_implies, implies_true, false_and, and_false, and_self, b_X7_take, r_X7_take]
  (repeat' with_reducible first | apply And.intro | intro _)
  all_goals try omega
  refine hK _ (eqi_mu (eqi_mu (eqi_mu (eqi_mu (eqi_mcp (eqi_mcp (eqi_mcp eqi.rf (by decide)) (by decide)) (by decide)) (by decide)) (by decide)) (by decide)) (by decide)) (fun j hj => ?_)
  unfold stt
  by_cases c : j < 4
  · have : j = 0 ∨ j = 1 ∨ j = 2 ∨ j = 3 := by omega
    rcases this with rfl | rfl | rfl | rfl <;> simp [mu, mcp]
  · rw [if_neg (show ¬ j = 0 by omega), if_neg (show ¬ j = 1 by omega), if_neg (show ¬ j = 2 by omega), if_neg (show ¬ j = 3 by omega), if_neg (show ¬ j = 0 by omega), if_neg (show ¬ j = 1 by omega), if_neg (show ¬ j = 2 by omega), if_neg (show ¬ j = 3 by omega)]
    by_cases c2 : j < 12
    · rw [if_pos c2, if_pos c2]
      simp [mu, mcp, show j - 4 < 8 by omega]
    · rw [if_neg c2, if_neg c2]
      by_cases c3 : j < 18
      · rw [if_pos c3, if_pos c3]
        simp [mu, mcp, show j - 12 < 6 by omega]
      · rw [if_neg c3, if_neg c3]
        simp [mu, mcp, show j - 18 < 36 by omega]
/-- the past's slot for place k -/
def slt (σ : Mem) (k : Nat) : Nat := 4 + ((σ 2 0 1).toNat + k) % 11
/-- the past holds what the reference's rows hold -/
def PI (σ : Mem) (a : BV) : Prop := (0 ≤ σ 2 0 1 ∧ σ 2 0 1 < 11) ∧ σ 2 0 2 = a 72 ∧ (0 ≤ a 72 ∧ a 72 ≤ 10) ∧ ∀ k j : Nat, (k : Int) < a 72 → j < 54 → stt σ (slt σ k) j = a (73 + 54 * k + j)
theorem slt_lt {σ : Mem} {k : Nat} : 4 ≤ slt σ k ∧ slt σ k < 15 := by
  unfold slt
  omega
theorem PI_i {σ σ' : Mem} {L M : List Nat} {w : Nat} {a : BV} (h : eqi L M w σ σ') (hL : 2 ∉ L ∧ 7 ∉ L ∧ 33 ∉ L ∧ 34 ∉ L ∧ 35 ∉ L) (hM : 2 ∉ M) (hw : w < 4 ∨ ∃ k : Nat, a 72 ≤ k ∧ k ≤ 10 ∧ w = slt σ k) (hp : PI σ a) : PI σ' a := by
  have e2 := h.k hL.1 hM
  unfold PI slt
  rw [e2]
  obtain ⟨h1, h2, h3, h4⟩ := hp
  refine ⟨h1, h2, h3, fun k j hk hj => ?_⟩
  rw [← h4 k j hk hj]
  refine stt_i h hL.2 ?_ j
  have := slt_lt (σ := σ) (k := k)
  rcases hw with hw | ⟨i, hi, hi2, rfl⟩
  · unfold slt at this
    omega
  · unfold slt
    omega
theorem c_mark {w : Nat} {a : BV} (hw : w < 4) (hp : PI σ a) (hK : ∀ σ', eqi [] [7, 33, 34, 35] (slt σ (a 72).toNat) σ σ' → PI σ' a → (∀ j : Nat, j < 54 → stt σ' (slt σ' (a 72).toNat) j = stt σ w j) → K none σ') : Ev (d + 2) 21 [po, so w] σ K := by
  obtain ⟨h1, h2, h3, h4⟩ := hp
  have et : (σ 2 0 1 + a 72).tmod 11 = (σ 2 0 1 + a 72) % 11 := tm (by omega)
  have es : 4 + ((σ 2 0 1 + a 72) % 11).toNat = slt σ (a 72).toNat := by
    unfold slt
    omega
  refine e_X2_mark (Nat.le_of_ble_eq_true rfl) ?_
  simp only [wp_c, st_iload, st_lload, st_aload, st_istore, st_lstore, st_astore, st_iinc, st_sipush, st_jsr_w, st_goto, st_jsr, st_goto_w, st_if_icmp, st_ifCond, st_iadd, st_isub, st_imul, st_idiv, st_irem, st_iand, st_ior, st_ixor, st_ishl, st_ishr, st_iushr, st_ladd, st_lsub, st_lmul, st_ldiv, st_lrem, st_land, st_lor, st_lshl, st_lshr, st_i2l, st_l2i, st_i2b, st_i2s, st_i2c, st_lcmp, st_dup, st_pop, st_dup2, st_pop2, st_getfield, st_getstatic, st_checkcast, st_instanceof, st_putfield, st_putstatic, st_dstore, st_iaload, st_baload, st_laload, st_aaload, st_iastore, st_bastore, st_lastore, st_arraylength, st_dcmpg, st_dcmpl, st_fcmpg, st_fcmpl, st_monitorenter, st_tableswitch, st_multianewarray, st_invokeinterface, st_ireturn, st_lreturn, st_return_, st_ldc, st_ldc_w, st_ldc2_w, st_freturn, st_invokevirtual, st_anewarray0, st_anewarray1, st_anewarray2, st_anewarray3, st_anewarray4, st_anewarray5, st_lookupswitch, popI_c, popL_c, popR_c, popV_c, getI_c, getL_c, getR_c, lg_z, lg_s, ls1_z, ls1_o, ls1_s, ls2_z, ls2_o, ls2_s, noL_i, noL_l, noL_r, isL_i, isL_l, isL_r, tk_z, tk_s, psh_n, psh_s, ent_e, entL_n, entL_c, cc_eq, cc_ne, cc_lt, cc_ge, cc_gt, cc_le, swt_n, swt_c, lsw_n, lsw_c, mPs, NSTR_e, akds, alens, cnts, arfs, inb_e, lcm_lt, lcm_gt, lcm_ge, lcm_le, lcm_eq, lcm_a, lcm_b, Int.reduceToNat, Nat.reduceDiv, Nat.reduceMod, Nat.reduceMul, Nat.reduceAdd, Nat.reduceSub, Nat.reduceLT, Nat.reduceLeDiff, Nat.reduceEqDiff, Int.reduceNeg, Int.reduceAdd, Nat.one_mul, Nat.zero_mul, Nat.add_zero, Nat.zero_add, if_true, if_false, eq_self, true_and, and_true, true_or, or_true, false_or, or_false, List.length_cons, List.length_nil, List.cons_append, List.nil_append, List.replicate_zero, List.replicate_succ, Nat.lt_irrefl, reduceCtorEq, Bool.false_eq_true, in32, in64, Int.reduceLE, Int.reduceLT, Int.reduceEq, Int.reduceNe, not_true_eq_false, not_false_eq_true, true_implies, false_implies, implies_true, false_and, and_false, and_self, b_X2_mark, r_X2_mark, h2, et, es]
  (repeat' with_reducible first | apply And.intro | intro _)
  all_goals try omega
  refine c_take slt_lt.2 (by omega) (fun σ1 x1 g1 => ?_)
  have e2 := x1.k (K := 2) (by decide) (by decide)
  simp only [wp_c, st_iload, st_lload, st_aload, st_istore, st_lstore, st_astore, st_iinc, st_sipush, st_jsr_w, st_goto, st_jsr, st_goto_w, st_if_icmp, st_ifCond, st_iadd, st_isub, st_imul, st_idiv, st_irem, st_iand, st_ior, st_ixor, st_ishl, st_ishr, st_iushr, st_ladd, st_lsub, st_lmul, st_ldiv, st_lrem, st_land, st_lor, st_lshl, st_lshr, st_i2l, st_l2i, st_i2b, st_i2s, st_i2c, st_lcmp, st_dup, st_pop, st_dup2, st_pop2, st_getfield, st_getstatic, st_checkcast, st_instanceof, st_putfield, st_putstatic, st_dstore, st_iaload, st_baload, st_laload, st_aaload, st_iastore, st_bastore, st_lastore, st_arraylength, st_dcmpg, st_dcmpl, st_fcmpg, st_fcmpl, st_monitorenter, st_tableswitch, st_multianewarray, st_invokeinterface, st_ireturn, st_lreturn, st_return_, st_ldc, st_ldc_w, st_ldc2_w, st_freturn, st_invokevirtual, st_anewarray0, st_anewarray1, st_anewarray2, st_anewarray3, st_anewarray4, st_anewarray5, st_lookupswitch, popI_c, popL_c, popR_c, popV_c, getI_c, getL_c, getR_c, lg_z, lg_s, ls1_z, ls1_o, ls1_s, ls2_z, ls2_o, ls2_s, noL_i, noL_l, noL_r, isL_i, isL_l, isL_r, tk_z, tk_s, psh_n, psh_s, ent_e, entL_n, entL_c, cc_eq, cc_ne, cc_lt, cc_ge, cc_gt, cc_le, swt_n, swt_c, lsw_n, lsw_c, mPs, NSTR_e, akds, alens, cnts, arfs, inb_e, lcm_lt, lcm_gt, lcm_ge, lcm_le, lcm_eq, lcm_a, lcm_b, Int.reduceToNat, Nat.reduceDiv, Nat.reduceMod, Nat.reduceMul, Nat.reduceAdd, Nat.reduceSub, Nat.reduceLT, Nat.reduceLeDiff, Nat.reduceEqDiff, Int.reduceNeg, Int.reduceAdd, Nat.one_mul, Nat.zero_mul, Nat.add_zero, Nat.zero_add, if_true, if_false, eq_self, true_and, and_true, true_or, or_true, false_or, or_false, List.length_cons, List.length_nil, List.cons_append, List.nil_append, List.replicate_zero, List.replicate_succ, Nat.lt_irrefl, reduceCtorEq, Bool.false_eq_true, in32, in64, Int.reduceLE, Int.reduceLT, Int.reduceEq, Int.reduceNe, not_true_eq_false, not_false_eq_true, true_implies, false_implies, implies_true, false_and, and_false, and_self, b_X2_mark, r_X2_mark]
  (repeat' with_reducible first | apply And.intro | intro _)
  all_goals try omega
  all_goals refine hK σ1 x1 (PI_i x1 (by decide) (by decide) (Or.inr ⟨(a 72).toNat, by omega, by omega, rfl⟩) ⟨h1, h2, h3, h4⟩) (fun j hj => ?_)
  all_goals rw [← g1 j hj]
  all_goals (unfold slt; rw [e2])
theorem c_keep {a r : BV} (hp : PI σ a) (hr : ∀ j : Nat, j < 54 → stt σ (slt σ (a 72).toNat) j = r j) (hK : ∀ σ', eqx [2] σ σ' → PI σ' (pushA a r) → K none σ') : Ev (d + 1) 22 [po] σ K := by
  obtain ⟨h1, h2, h3, h4⟩ := hp
  have et : (σ 2 0 1 + 1).tmod 11 = (σ 2 0 1 + 1) % 11 := tm (by omega)
  refine e_X2_keep (Nat.le_of_ble_eq_true rfl) ?_
  simp only [wp_c, st_iload, st_lload, st_aload, st_istore, st_lstore, st_astore, st_iinc, st_sipush, st_jsr_w, st_goto, st_jsr, st_goto_w, st_if_icmp, st_ifCond, st_iadd, st_isub, st_imul, st_idiv, st_irem, st_iand, st_ior, st_ixor, st_ishl, st_ishr, st_iushr, st_ladd, st_lsub, st_lmul, st_ldiv, st_lrem, st_land, st_lor, st_lshl, st_lshr, st_i2l, st_l2i, st_i2b, st_i2s, st_i2c, st_lcmp, st_dup, st_pop, st_dup2, st_pop2, st_getfield, st_getstatic, st_checkcast, st_instanceof, st_putfield, st_putstatic, st_dstore, st_iaload, st_baload, st_laload, st_aaload, st_iastore, st_bastore, st_lastore, st_arraylength, st_dcmpg, st_dcmpl, st_fcmpg, st_fcmpl, st_monitorenter, st_tableswitch, st_multianewarray, st_invokeinterface, st_ireturn, st_lreturn, st_return_, st_ldc, st_ldc_w, st_ldc2_w, st_freturn, st_invokevirtual, st_anewarray0, st_anewarray1, st_anewarray2, st_anewarray3, st_anewarray4, st_anewarray5, st_lookupswitch, popI_c, popL_c, popR_c, popV_c, getI_c, getL_c, getR_c, lg_z, lg_s, ls1_z, ls1_o, ls1_s, ls2_z, ls2_o, ls2_s, noL_i, noL_l, noL_r, isL_i, isL_l, isL_r, tk_z, tk_s, psh_n, psh_s, ent_e, entL_n, entL_c, cc_eq, cc_ne, cc_lt, cc_ge, cc_gt, cc_le, swt_n, swt_c, lsw_n, lsw_c, mPs, NSTR_e, akds, alens, cnts, arfs, inb_e, lcm_lt, lcm_gt, lcm_ge, lcm_le, lcm_eq, lcm_a, lcm_b, Int.reduceToNat, Nat.reduceDiv, Nat.reduceMod, Nat.reduceMul, Nat.reduceAdd, Nat.reduceSub, Nat.reduceLT, Nat.reduceLeDiff, Nat.reduceEqDiff, Int.reduceNeg, Int.reduceAdd, Nat.one_mul, Nat.zero_mul, Nat.add_zero, Nat.zero_add, if_true, if_false, eq_self, true_and, and_true, true_or, or_true, false_or, or_false, List.length_cons, List.length_nil, List.cons_append, List.nil_append, List.replicate_zero, List.replicate_succ, Nat.lt_irrefl, reduceCtorEq, Bool.false_eq_true, in32, in64, Int.reduceLE, Int.reduceLT, Int.reduceEq, Int.reduceNe, not_true_eq_false, not_false_eq_true, true_implies, false_implies, implies_true, false_and, and_false, and_self, b_X2_keep, r_X2_keep, h2, et]
  (repeat' with_reducible first | apply And.intro | intro _)
  all_goals try omega
  · rename_i c
    have c10 : a 72 = 10 := by omega
    refine hK _ (eqx_mu eqx.rf (by decide)) ?_
    have ex : ∀ n j : Nat, stt (mu σ 2 0 1 ((σ 2 0 1 + 1) % 11)) n j = stt σ n j := fun n j => stt_x (L := [2]) (eqx_mu eqx.rf (by decide)) (by decide) j
    have es : ∀ k : Nat, slt (mu σ 2 0 1 ((σ 2 0 1 + 1) % 11)) k = slt σ (k + 1) := fun k => by
      unfold slt
      rw [mu_at, if_pos rfl]
      omega
    have e72 : pushA a r 72 = 10 := by
      unfold pushA
      rw [if_pos c10]
      exact c10
    unfold PI
    rw [e72, mu_at, mu_at, if_pos rfl, if_neg (by decide)]
    refine ⟨⟨by omega, by omega⟩, by omega, by omega, fun k j hk hj => ?_⟩
    rw [ex, es]
    unfold pushA
    rw [if_pos c10]
    show _ = if 73 ≤ 73 + 54 * k + j ∧ 73 + 54 * k + j < 559 then a (73 + 54 * k + j + 54) else if 559 ≤ 73 + 54 * k + j ∧ 73 + 54 * k + j < 613 then r (73 + 54 * k + j - 559) else a (73 + 54 * k + j)
    by_cases c9 : k < 9
    · rw [if_pos (by omega), h4 (k + 1) j (by omega) hj, show 73 + 54 * (k + 1) + j = 73 + 54 * k + j + 54 by omega]
    · have e9 : k = 9 := by omega
      subst e9
      rw [if_neg (by omega), if_pos (by omega), ← hr (73 + 54 * 9 + j - 559) (by omega), show 73 + 54 * 9 + j - 559 = j by omega, c10]
      rfl
  · rename_i c
    refine hK _ (eqx_mu eqx.rf (by decide)) ?_
    have ex : ∀ n j : Nat, stt (mu σ 2 0 2 (a 72 + 1)) n j = stt σ n j := fun n j => stt_x (L := [2]) (eqx_mu eqx.rf (by decide)) (by decide) j
    have es : ∀ k : Nat, slt (mu σ 2 0 2 (a 72 + 1)) k = slt σ k := fun k => by
      unfold slt
      rw [mu_at, if_neg (by decide)]
    have e72 : pushA a r 72 = a 72 + 1 := by
      unfold pushA
      rw [if_neg (by omega)]
      rfl
    unfold PI
    rw [e72, mu_at, mu_at, if_pos rfl, if_neg (by decide)]
    refine ⟨h1, rfl, by omega, fun k j hk hj => ?_⟩
    rw [ex, es]
    by_cases c9 : (k : Int) < a 72
    · rw [h4 k j c9 hj]
      unfold pushA
      rw [if_neg (show ¬ a 72 = 10 by omega)]
      rw [if_neg (by omega), if_neg (by omega)]
    · have e9 : k = (a 72).toNat := by omega
      subst e9
      rw [hr j hj]
      unfold pushA
      rw [if_neg (show ¬ a 72 = 10 by omega)]
      rw [if_neg (by omega), if_pos (by omega)]
      congr 1
      omega
theorem c_forget (hK : K none (mu σ 2 0 2 0)) : Ev (d + 1) 20 [po] σ K := by
  refine e_X2_forget (Nat.le_of_ble_eq_true rfl) ?_
  simp only [wp_c, st_iload, st_lload, st_aload, st_istore, st_lstore, st_astore, st_iinc, st_sipush, st_jsr_w, st_goto, st_jsr, st_goto_w, st_if_icmp, st_ifCond, st_iadd, st_isub, st_imul, st_idiv, st_irem, st_iand, st_ior, st_ixor, st_ishl, st_ishr, st_iushr, st_ladd, st_lsub, st_lmul, st_ldiv, st_lrem, st_land, st_lor, st_lshl, st_lshr, st_i2l, st_l2i, st_i2b, st_i2s, st_i2c, st_lcmp, st_dup, st_pop, st_dup2, st_pop2, st_getfield, st_getstatic, st_checkcast, st_instanceof, st_putfield, st_putstatic, st_dstore, st_iaload, st_baload, st_laload, st_aaload, st_iastore, st_bastore, st_lastore, st_arraylength, st_dcmpg, st_dcmpl, st_fcmpg, st_fcmpl, st_monitorenter, st_tableswitch, st_multianewarray, st_invokeinterface, st_ireturn, st_lreturn, st_return_, st_ldc, st_ldc_w, st_ldc2_w, st_freturn, st_invokevirtual, st_anewarray0, st_anewarray1, st_anewarray2, st_anewarray3, st_anewarray4, st_anewarray5, st_lookupswitch, popI_c, popL_c, popR_c, popV_c, getI_c, getL_c, getR_c, lg_z, lg_s, ls1_z, ls1_o, ls1_s, ls2_z, ls2_o, ls2_s, noL_i, noL_l, noL_r, isL_i, isL_l, isL_r, tk_z, tk_s, psh_n, psh_s, ent_e, entL_n, entL_c, cc_eq, cc_ne, cc_lt, cc_ge, cc_gt, cc_le, swt_n, swt_c, lsw_n, lsw_c, mPs, NSTR_e, akds, alens, cnts, arfs, inb_e, lcm_lt, lcm_gt, lcm_ge, lcm_le, lcm_eq, lcm_a, lcm_b, Int.reduceToNat, Nat.reduceDiv, Nat.reduceMod, Nat.reduceMul, Nat.reduceAdd, Nat.reduceSub, Nat.reduceLT, Nat.reduceLeDiff, Nat.reduceEqDiff, Int.reduceNeg, Int.reduceAdd, Nat.one_mul, Nat.zero_mul, Nat.add_zero, Nat.zero_add, if_true, if_false, eq_self, true_and, and_true, true_or, or_true, false_or, or_false, List.length_cons, List.length_nil, List.cons_append, List.nil_append, List.replicate_zero, List.replicate_succ, Nat.lt_irrefl, reduceCtorEq, Bool.false_eq_true, in32, in64, Int.reduceLE, Int.reduceLT, Int.reduceEq, Int.reduceNe, not_true_eq_false, not_false_eq_true, true_implies, false_implies, implies_true, false_and, and_false, and_self, b_X2_forget, r_X2_forget]
  (repeat' with_reducible first | apply And.intro | intro _)
  all_goals try omega
  all_goals exact hK
theorem c_bringBack {a : BV} {n : Int} {w : Nat} (hw : w < 4) (hn : 1 ≤ n ∧ n ≤ a 72) (hp : PI σ a) (hK : ∀ σ', eqi [2] [7, 33, 34, 35] w σ σ' → PI σ' (vu a 72 (a 72 - n)) → (∀ j : Nat, j < 54 → stt σ' w j = a (73 + 54 * (a 72 - n).toNat + j)) → K none σ') : Ev (d + 2) 23 [po, .inl n, so w] σ K := by
  obtain ⟨h1, h2, h3, h4⟩ := hp
  have et : (σ 2 0 1 + (a 72 - n)).tmod 11 = (σ 2 0 1 + (a 72 - n)) % 11 := tm (by omega)
  have es : 4 + ((σ 2 0 1 + (a 72 - n)) % 11).toNat = slt σ (a 72 - n).toNat := by
    unfold slt
    omega
  have m1 : mu σ 2 0 2 (a 72 - n) 2 0 1 = σ 2 0 1 := by rw [mu_at, if_neg (by decide)]
  have m2 : mu σ 2 0 2 (a 72 - n) 2 0 2 = a 72 - n := by rw [mu_at, if_pos rfl]
  have ex : ∀ i j : Nat, stt (mu σ 2 0 2 (a 72 - n)) i j = stt σ i j := fun i j => stt_x (L := [2]) (eqx_mu eqx.rf (by decide)) (by decide) j
  have p1 : PI (mu σ 2 0 2 (a 72 - n)) (vu a 72 (a 72 - n)) := by
    unfold PI
    rw [m1, m2, vu_eq]
    refine ⟨h1, rfl, by omega, fun k j hk hj => ?_⟩
    have e : slt (mu σ 2 0 2 (a 72 - n)) k = slt σ k := by
      unfold slt
      rw [m1]
    rw [ex, e, vu_ne (by omega)]
    exact h4 k j (by omega) hj
  refine e_X2_bringBack (Nat.le_of_ble_eq_true rfl) ?_
  simp only [wp_c, st_iload, st_lload, st_aload, st_istore, st_lstore, st_astore, st_iinc, st_sipush, st_jsr_w, st_goto, st_jsr, st_goto_w, st_if_icmp, st_ifCond, st_iadd, st_isub, st_imul, st_idiv, st_irem, st_iand, st_ior, st_ixor, st_ishl, st_ishr, st_iushr, st_ladd, st_lsub, st_lmul, st_ldiv, st_lrem, st_land, st_lor, st_lshl, st_lshr, st_i2l, st_l2i, st_i2b, st_i2s, st_i2c, st_lcmp, st_dup, st_pop, st_dup2, st_pop2, st_getfield, st_getstatic, st_checkcast, st_instanceof, st_putfield, st_putstatic, st_dstore, st_iaload, st_baload, st_laload, st_aaload, st_iastore, st_bastore, st_lastore, st_arraylength, st_dcmpg, st_dcmpl, st_fcmpg, st_fcmpl, st_monitorenter, st_tableswitch, st_multianewarray, st_invokeinterface, st_ireturn, st_lreturn, st_return_, st_ldc, st_ldc_w, st_ldc2_w, st_freturn, st_invokevirtual, st_anewarray0, st_anewarray1, st_anewarray2, st_anewarray3, st_anewarray4, st_anewarray5, st_lookupswitch, popI_c, popL_c, popR_c, popV_c, getI_c, getL_c, getR_c, lg_z, lg_s, ls1_z, ls1_o, ls1_s, ls2_z, ls2_o, ls2_s, noL_i, noL_l, noL_r, isL_i, isL_l, isL_r, tk_z, tk_s, psh_n, psh_s, ent_e, entL_n, entL_c, cc_eq, cc_ne, cc_lt, cc_ge, cc_gt, cc_le, swt_n, swt_c, lsw_n, lsw_c, mPs, NSTR_e, akds, alens, cnts, arfs, inb_e, lcm_lt, lcm_gt, lcm_ge, lcm_le, lcm_eq, lcm_a, lcm_b, Int.reduceToNat, Nat.reduceDiv, Nat.reduceMod, Nat.reduceMul, Nat.reduceAdd, Nat.reduceSub, Nat.reduceLT, Nat.reduceLeDiff, Nat.reduceEqDiff, Int.reduceNeg, Int.reduceAdd, Nat.one_mul, Nat.zero_mul, Nat.add_zero, Nat.zero_add, if_true, if_false, eq_self, true_and, and_true, true_or, or_true, false_or, or_false, List.length_cons, List.length_nil, List.cons_append, List.nil_append, List.replicate_zero, List.replicate_succ, Nat.lt_irrefl, reduceCtorEq, Bool.false_eq_true, in32, in64, Int.reduceLE, Int.reduceLT, Int.reduceEq, Int.reduceNe, not_true_eq_false, not_false_eq_true, true_implies, false_implies, implies_true, false_and, and_false, and_self, b_X2_bringBack, r_X2_bringBack, h2, m1, m2, et, es]
  (repeat' with_reducible first | apply And.intro | intro _)
  all_goals try omega
  refine c_take (by omega) slt_lt.2 (fun σ1 x1 g1 => ?_)
  simp only [wp_c, st_iload, st_lload, st_aload, st_istore, st_lstore, st_astore, st_iinc, st_sipush, st_jsr_w, st_goto, st_jsr, st_goto_w, st_if_icmp, st_ifCond, st_iadd, st_isub, st_imul, st_idiv, st_irem, st_iand, st_ior, st_ixor, st_ishl, st_ishr, st_iushr, st_ladd, st_lsub, st_lmul, st_ldiv, st_lrem, st_land, st_lor, st_lshl, st_lshr, st_i2l, st_l2i, st_i2b, st_i2s, st_i2c, st_lcmp, st_dup, st_pop, st_dup2, st_pop2, st_getfield, st_getstatic, st_checkcast, st_instanceof, st_putfield, st_putstatic, st_dstore, st_iaload, st_baload, st_laload, st_aaload, st_iastore, st_bastore, st_lastore, st_arraylength, st_dcmpg, st_dcmpl, st_fcmpg, st_fcmpl, st_monitorenter, st_tableswitch, st_multianewarray, st_invokeinterface, st_ireturn, st_lreturn, st_return_, st_ldc, st_ldc_w, st_ldc2_w, st_freturn, st_invokevirtual, st_anewarray0, st_anewarray1, st_anewarray2, st_anewarray3, st_anewarray4, st_anewarray5, st_lookupswitch, popI_c, popL_c, popR_c, popV_c, getI_c, getL_c, getR_c, lg_z, lg_s, ls1_z, ls1_o, ls1_s, ls2_z, ls2_o, ls2_s, noL_i, noL_l, noL_r, isL_i, isL_l, isL_r, tk_z, tk_s, psh_n, psh_s, ent_e, entL_n, entL_c, cc_eq, cc_ne, cc_lt, cc_ge, cc_gt, cc_le, swt_n, swt_c, lsw_n, lsw_c, mPs, NSTR_e, akds, alens, cnts, arfs, inb_e, lcm_lt, lcm_gt, lcm_ge, lcm_le, lcm_eq, lcm_a, lcm_b, Int.reduceToNat, Nat.reduceDiv, Nat.reduceMod, Nat.reduceMul, Nat.reduceAdd, Nat.reduceSub, Nat.reduceLT, Nat.reduceLeDiff, Nat.reduceEqDiff, Int.reduceNeg, Int.reduceAdd, Nat.one_mul, Nat.zero_mul, Nat.add_zero, Nat.zero_add, if_true, if_false, eq_self, true_and, and_true, true_or, or_true, false_or, or_false, List.length_cons, List.length_nil, List.cons_append, List.nil_append, List.replicate_zero, List.replicate_succ, Nat.lt_irrefl, reduceCtorEq, Bool.false_eq_true, in32, in64, Int.reduceLE, Int.reduceLT, Int.reduceEq, Int.reduceNe, not_true_eq_false, not_false_eq_true, true_implies, false_implies, implies_true, false_and, and_false, and_self, b_X2_bringBack, r_X2_bringBack]
  (repeat' with_reducible first | apply And.intro | intro _)
  all_goals try omega
  all_goals refine hK σ1 ((eqx.i (L := [2]) (eqx_mu eqx.rf (by decide)) (by decide)).tr (x1.wd (by decide) (by decide))) (PI_i x1 (by decide) (by decide) (Or.inl hw) p1) (fun j hj => ?_)
  all_goals rw [g1 j hj, ex, h4 _ j (by omega) hj]
end PAST
