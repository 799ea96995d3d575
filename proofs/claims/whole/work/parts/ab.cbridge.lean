/-! ab: the class's bridge -/
section CBRIDGE
variable {d n : Nat} {σ σ' : Mem} {K : Option AV → Mem → Prop} {T : Int → Int} {L s v : Int} {D A B : BV}
theorem lie_ag {lw : List Int} (h : ∀ j : Nat, j < 72 → B j = A j) (hP : 0 ≤ A 2 ∧ A 2 ≤ 6) : lie B lw = lie A lw := by
  have w : eqW A B := ⟨h 2 (by decide), h 18 (by decide), h 19 (by decide), fun k _ h2 => h k h2⟩
  funext k
  unfold lie
  rw [h 2 (by decide)]
  refine sumZ_congr _ (fun i a1 a2 => ?_)
  have e : plc B i = plc A i := h _ (by omega)
  rw [e, h 1 (by decide), wgt_w w hP ⟨a1, by omega⟩]
theorem frst_ag {f : Int → Int} (h : ∀ j : Nat, j < 72 → B j = A j) (hN : 1 ≤ A 1 ∧ A 1 ≤ 8) : frst B f = frst A f := by
  unfold frst
  rw [h 1 (by decide)]
  refine fz_congr _ _ (fun i a1 a2 => ?_)
  have e1 : bears B i = bears A i := by unfold bears; rw [h _ (by omega), h _ (by omega)]
  have e2 : load B f i = load A f i := by unfold load; rw [h 1 (by decide)]
  unfold ovr
  rw [e1, e2, h 21 (by decide)]
theorem mBr_ag {lw : List Int} : ∀ (n : Nat) {A B : BV}, OkA A → (∀ j : Nat, j < 72 → B j = A j) → ∀ j : Nat, j < 72 → mBr lw n B j = mBr lw n A j := by
  intro n
  induction n with
  | zero => intro A B _ h; exact h
  | succ n ih =>
    intro A B ho h
    have e : frst B (lie B lw) = frst A (lie A lw) := by rw [lie_ag h ho.P, frst_ag h ho.N]
    by_cases c : frst A (lie A lw) = -1
    · intro j hj
      have e1 : mBr lw (n + 1) B = B := by show (if frst B (lie B lw) = -1 then B else _) = B; rw [e, if_pos c]
      have e2 : mBr lw (n + 1) A = A := by show (if frst A (lie A lw) = -1 then A else _) = A; rw [if_pos c]
      rw [e1, e2]
      exact h j hj
    · intro j hj
      have e1 : mBr lw (n + 1) B = mBr lw n (brk B (frst A (lie A lw))) := by show (if frst B (lie B lw) = -1 then B else mBr lw n (brk B (frst B (lie B lw)))) = _; rw [e, if_neg c]
      have e2 : mBr lw (n + 1) A = mBr lw n (brk A (frst A (lie A lw))) := by show (if frst A (lie A lw) = -1 then A else mBr lw n (brk A (frst A (lie A lw)))) = _; rw [if_neg c]
      rw [e1, e2]
      have hk : 0 ≤ frst A (lie A lw) ∧ frst A (lie A lw) < A 1 := by
        have := ho.N
        rcases fz_spec (c := ovr A (lie A lw)) (A 1).toNat 0 (by decide) with ⟨h1, _⟩ | ⟨h1, h2, _, _⟩
        · exact absurd h1 c
        · unfold frst at *
          omega
      refine ih (brk_ok ho hk) (fun i hi => ?_) j hj
      unfold brk brkz
      rw [h 21 (by decide), h 2 (by decide), h i hi]
/-- views of one world beside other numbers -/
theorem V_ag {w j : Nat} (h : j < 4 ∨ (10 ≤ j ∧ j < 72)) : V σ w B j = V σ w A j := by
  unfold V
  by_cases c : j < 4
  · have : j = 0 ∨ j = 1 ∨ j = 2 ∨ j = 3 := by omega
    rcases this with rfl | rfl | rfl | rfl <;> rfl
  · have h72 : j < 72 := by omega
    have h10 : ¬ j < 10 := by omega
    simp only [if_pos h72, if_neg h10]
theorem V_ot {w j : Nat} (h : ¬ (j < 4 ∨ (10 ≤ j ∧ j < 72))) : V σ w B j = B j := by
  unfold V
  rw [if_neg (by omega), if_neg (by omega), if_neg (by omega), if_neg (by omega)]
  by_cases c : j < 10
  · rw [if_pos c]
  · rw [if_neg c, if_neg (by omega), if_neg (by omega), if_neg (by omega), if_neg (by omega), if_neg (by omega), if_neg (by omega), if_neg (by omega), if_neg (by omega)]
theorem OkA_b {a b : BV} (h : ∀ j : Nat, j < 4 ∨ (10 ≤ j ∧ j < 72) → a j = b j) (ho : OkA b) : OkA a := by
  refine OkA_ag (D := fun j => if j < 4 ∨ (10 ≤ j ∧ j < 72) then b j else a j) (fun j hj => ?_) ?_
  · by_cases c : j < 4 ∨ (10 ≤ j ∧ j < 72)
    · show a j = if j < 4 ∨ (10 ≤ j ∧ j < 72) then b j else a j
      rw [if_pos c]; exact h j c
    · show a j = if j < 4 ∨ (10 ≤ j ∧ j < 72) then b j else a j
      rw [if_neg c]
  · have e : ∀ j : Nat, j < 4 ∨ (10 ≤ j ∧ j < 72) → (if j < 4 ∨ (10 ≤ j ∧ j < 72) then b j else a j) = b j := fun j c => by rw [if_pos c]
    obtain ⟨h1, h2, h3, h4, h5, h6, h7, h8, h9, h10, h11, h12, h13, h14⟩ := ho
    unfold OkA
    simp only
    refine ⟨?_, ?_, ?_, fun k hk => ?_, ?_, ?_, trivial, ?_, fun k hk => ?_, fun p hp => ?_, fun k hk => ?_, fun p hp => ?_, fun p q hp hq => ?_, fun k => ?_⟩
    · rw [e 1 (by omega)]; exact h1
    · rw [e 2 (by omega)]; exact h2
    · rw [e 3 (by omega)]; exact h3
    · rw [e _ (by omega)]; exact h4 k hk
    · rw [e 18 (by omega)]; exact h5
    · rw [e 19 (by omega)]; exact h6
    · rw [e 21 (by omega)]; exact h8
    · rw [e _ (by omega)]; exact h9 k hk
    · rw [e _ (by omega), e 1 (by omega)]; exact h10 p hp
    · rw [e _ (by omega)]; exact h11 k hk
    · rw [e _ (by omega)]; exact h12 p hp
    · rw [e 2 (by omega), e _ (by omega)]; exact h13 p q hp hq
    · rw [e 1 (by omega), e 21 (by omega)]; exact h14 k
theorem WI_ag {w : Nat} {lw ll : List Int} (h : WI σ w A lw ll) : WI σ w B lw ll := by
  obtain ⟨h1, h2, h3, h4⟩ := h
  exact ⟨h1, h2, OkA_b (fun j hj => V_ag hj) h3, h4⟩
abbrev xo : AV := .inr (.inr (some (11, 0)))
/-- what a bridge's call changes in the class, told -/
def brf (σ σ' : Mem) : Prop := (∀ K i : Nat, ¬ (K = 2 ∨ K = 4 ∨ K = 11 ∨ K = 26 ∨ K = 27 ∨ K = 28 ∨ K = 39 ∨ K = 60 ∨ K = 61 ∨ ((K = 7 ∨ K = 10 ∨ K = 33 ∨ K = 34 ∨ K = 35) ∧ i = 0) ∨ ((K = 3 ∨ (21 ≤ K ∧ K ≤ 25)) ∧ i = npl σ)) → σ' K i = σ K i) ∧ (∀ i j : Nat, ¬ ((i = 24 ∨ i = 25) ∧ j = npl σ) → σ' 61 i j = σ 61 i j) ∧ σ' 60 0 0 = σ 60 0 0 + 1 ∧ (σ' 4 0 9).toNat = npl σ ∧ (∀ k : Nat, ¬ k = 13 → σ' 11 0 k = σ 11 0 k) ∧ σ' 11 0 13 = 0 ∧ (∀ k : Nat, ¬ k = 2 → σ' 2 0 k = σ 2 0 k)
set_option maxRecDepth 4000 in
theorem c_bridge {k : Int} (hk : in32 k) (h13 : 0 ≤ σ 11 0 13 ∧ σ 11 0 13 ≤ 900) (hT : ∀ i : Int, 0 ≤ i → i < σ 11 0 13 → σ 40 0 i.toNat = (T i).bmod 256 ∧ 0 ≤ T i ∧ T i < 256) (hp : ppn σ)
    (hB : ¬ (0 ≤ k ∧ k ≤ σ 11 0 13) → K (some (.inl (-3))) σ)
    (hX : 0 ≤ k ∧ k ≤ σ 11 0 13 → ∀ w q, L_all T k = .inr (w, q) → ∀ σ', rdf (mu σ 11 0 13 0) σ' → faC σ' w q → K (some (.inl (-30 - w))) σ')
    (hS : 0 ≤ k ∧ k ≤ σ 11 0 13 → ∀ s D, L_all T k = .inl (s, D) → DOk D s → ∀ σ', brf σ σ' → faC σ' 0 (-1) → σ' 2 0 2 = 0 → pln σ' 0 = npl σ → V σ' 0 D = mBr (lawR D 0) 8 D → WI σ' 0 D (lawR D 0) (lawR D 1) → K (some (.inl (D 0))) σ') : EvA (d + 65) 906 960 108 [xo, .inl k] σ K := by
  unfold in32 at hk
  refine e_Y11_bridge (Nat.le_of_ble_eq_true rfl) (by omega) ?_
  simp only [wp_c, st_iload, st_lload, st_aload, st_istore, st_lstore, st_astore, st_iinc, st_sipush, st_jsr_w, st_goto, st_jsr, st_goto_w, st_if_icmp, st_ifCond, st_iadd, st_isub, st_imul, st_idiv, st_irem, st_iand, st_ior, st_ixor, st_ishl, st_ishr, st_iushr, st_ladd, st_lsub, st_lmul, st_ldiv, st_lrem, st_land, st_lor, st_lshl, st_lshr, st_i2l, st_l2i, st_i2b, st_i2s, st_i2c, st_lcmp, st_dup, st_pop, st_dup2, st_pop2, st_getfield, st_getstatic, st_checkcast, st_instanceof, st_putfield, st_putstatic, st_dstore, st_iaload, st_baload, st_laload, st_aaload, st_iastore, st_bastore, st_lastore, st_arraylength, st_dcmpg, st_dcmpl, st_fcmpg, st_fcmpl, st_monitorenter, st_tableswitch, st_multianewarray, st_invokeinterface, st_ireturn, st_lreturn, st_return_, st_ldc, st_ldc_w, st_ldc2_w, st_freturn, st_invokevirtual, st_anewarray0, st_anewarray1, st_anewarray2, st_anewarray3, st_anewarray4, st_anewarray5, st_lookupswitch, popI_c, popL_c, popR_c, popV_c, getI_c, getL_c, getR_c, lg_z, lg_s, ls1_z, ls1_o, ls1_s, ls2_z, ls2_o, ls2_s, noL_i, noL_l, noL_r, isL_i, isL_l, isL_r, tk_z, tk_s, psh_n, psh_s, ent_e, entL_n, entL_c, cc_eq, cc_ne, cc_lt, cc_ge, cc_gt, cc_le, swt_n, swt_c, lsw_n, lsw_c, mPs, NSTR_e, akds, alens, cnts, arfs, inb_e, lcm_lt, lcm_gt, lcm_ge, lcm_le, lcm_eq, lcm_a, lcm_b, Int.reduceToNat, Nat.reduceDiv, Nat.reduceMod, Nat.reduceMul, Nat.reduceAdd, Nat.reduceSub, Nat.reduceLT, Nat.reduceLeDiff, Nat.reduceEqDiff, Int.reduceNeg, Int.reduceAdd, Nat.one_mul, Nat.zero_mul, Nat.add_zero, Nat.zero_add, if_true, if_false, eq_self, true_and, and_true, true_or, or_true, false_or, or_false, List.length_cons, List.length_nil, List.cons_append, List.nil_append, List.replicate_zero, List.replicate_succ, Nat.lt_irrefl, reduceCtorEq, Bool.false_eq_true, in32, in64, Int.reduceLE, Int.reduceLT, Int.reduceEq, Int.reduceNe, not_true_eq_false, not_false_eq_true, true_implies, false_implies, implies_true, false_and, and_false, and_self, sA_goto_w, sA_dcmpg, sA_dcmpl, sA_multianewarray, sA_invokeinterface, sA_invokespecial, sA_new, sA_fload, sA_aconst_null, sA_areturn, sA_ireturn, sA_ifnonnull, sA_faload, sA_caload, pA_iload, pA_aload, pA_istore, pA_iinc, pA_sipush, pA_jsr_w, pA_goto, pA_jsr, pA_if_icmp, pA_ifCond, pA_iadd, pA_isub, pA_iand, pA_land, pA_lor, pA_lshl, pA_i2l, pA_lcmp, pA_getfield, pA_checkcast, pA_instanceof, pA_putfield, pA_putstatic, pA_arraylength, pA_tableswitch, pA_ldc, pA_ldc_w, wpA_c, TA_i, TA_r, isRV_r, nrl_n, nrl_i, nrl_l, nrl_0, nrl_r, rmC_c, rmC_s, mPA, objA, Nat.reduceBEq, Bool.or_false, Bool.or_self, Bool.not_false, Bool.true_and, Bool.false_and, decide_false, Nat.reduceLeDiff, b_Y11_bridge, r_Y11_bridge]
  (repeat' with_reducible first | apply And.intro | intro _)
  all_goals try omega
  · exact hB (by omega)
  · have hX := hX (by omega)
    have hS := hS (by omega)
    have e0 : mu σ 11 0 13 0 40 = σ 40 := mu_k (by decide)
    have hn : npl (mu σ 11 0 13 0) = npl σ := by unfold npl; rw [mu_k (by decide)]
    have hp0 : ppn (mu σ 11 0 13 0) := by
      unfold ppn
      rw [hn, mu_k (by decide), mu_k (by decide), mu_k (by decide)]
      exact hp
    refine ⟨906, 960, by omega, by omega, c_read (T := T) ⟨by omega, by omega⟩ (fun i a b => by rw [e0]; exact hT i a (by omega)) hp0 (fun w q hh σ1 x1 g1 => ?_) (fun s D hh oD σ1 x1 g1 p1 => ?_)⟩
    · have := hX w q hh σ1 x1 g1
      have e10 := g1.1
      simp only [wp_c, st_iload, st_lload, st_aload, st_istore, st_lstore, st_astore, st_iinc, st_sipush, st_jsr_w, st_goto, st_jsr, st_goto_w, st_if_icmp, st_ifCond, st_iadd, st_isub, st_imul, st_idiv, st_irem, st_iand, st_ior, st_ixor, st_ishl, st_ishr, st_iushr, st_ladd, st_lsub, st_lmul, st_ldiv, st_lrem, st_land, st_lor, st_lshl, st_lshr, st_i2l, st_l2i, st_i2b, st_i2s, st_i2c, st_lcmp, st_dup, st_pop, st_dup2, st_pop2, st_getfield, st_getstatic, st_checkcast, st_instanceof, st_putfield, st_putstatic, st_dstore, st_iaload, st_baload, st_laload, st_aaload, st_iastore, st_bastore, st_lastore, st_arraylength, st_dcmpg, st_dcmpl, st_fcmpg, st_fcmpl, st_monitorenter, st_tableswitch, st_multianewarray, st_invokeinterface, st_ireturn, st_lreturn, st_return_, st_ldc, st_ldc_w, st_ldc2_w, st_freturn, st_invokevirtual, st_anewarray0, st_anewarray1, st_anewarray2, st_anewarray3, st_anewarray4, st_anewarray5, st_lookupswitch, popI_c, popL_c, popR_c, popV_c, getI_c, getL_c, getR_c, lg_z, lg_s, ls1_z, ls1_o, ls1_s, ls2_z, ls2_o, ls2_s, noL_i, noL_l, noL_r, isL_i, isL_l, isL_r, tk_z, tk_s, psh_n, psh_s, ent_e, entL_n, entL_c, cc_eq, cc_ne, cc_lt, cc_ge, cc_gt, cc_le, swt_n, swt_c, lsw_n, lsw_c, mPs, NSTR_e, akds, alens, cnts, arfs, inb_e, lcm_lt, lcm_gt, lcm_ge, lcm_le, lcm_eq, lcm_a, lcm_b, Int.reduceToNat, Nat.reduceDiv, Nat.reduceMod, Nat.reduceMul, Nat.reduceAdd, Nat.reduceSub, Nat.reduceLT, Nat.reduceLeDiff, Nat.reduceEqDiff, Int.reduceNeg, Int.reduceAdd, Nat.one_mul, Nat.zero_mul, Nat.add_zero, Nat.zero_add, if_true, if_false, eq_self, true_and, and_true, true_or, or_true, false_or, or_false, List.length_cons, List.length_nil, List.cons_append, List.nil_append, List.replicate_zero, List.replicate_succ, Nat.lt_irrefl, reduceCtorEq, Bool.false_eq_true, in32, in64, Int.reduceLE, Int.reduceLT, Int.reduceEq, Int.reduceNe, not_true_eq_false, not_false_eq_true, true_implies, false_implies, implies_true, false_and, and_false, and_self, sA_goto_w, sA_dcmpg, sA_dcmpl, sA_multianewarray, sA_invokeinterface, sA_invokespecial, sA_new, sA_fload, sA_aconst_null, sA_areturn, sA_ireturn, sA_ifnonnull, sA_faload, sA_caload, pA_iload, pA_aload, pA_istore, pA_iinc, pA_sipush, pA_jsr_w, pA_goto, pA_jsr, pA_if_icmp, pA_ifCond, pA_iadd, pA_isub, pA_iand, pA_land, pA_lor, pA_lshl, pA_i2l, pA_lcmp, pA_getfield, pA_checkcast, pA_instanceof, pA_putfield, pA_putstatic, pA_arraylength, pA_tableswitch, pA_ldc, pA_ldc_w, wpA_c, TA_i, TA_r, isRV_r, nrl_n, nrl_i, nrl_l, nrl_0, nrl_r, rmC_c, rmC_s, mPA, objA, Nat.reduceBEq, Bool.or_false, Bool.or_self, Bool.not_false, Bool.true_and, Bool.false_and, decide_false, Nat.reduceLeDiff, b_Y11_bridge, r_Y11_bridge, e10, Sum.inr.injEq]
      (repeat' with_reducible first | apply And.intro | intro _)
      all_goals try omega
      all_goals exact this
    · rw [hn] at p1 ⊢
      have hl : npl σ < (σ1 60 0 0).toNat := by
        have := hp.1
        rw [x1.2.2.1, mu_k (by decide)]
        unfold npl
        omega
      have e60 : (σ1 60 0 0).toNat = npl σ + 1 := by
        have := hp.1
        rw [x1.2.2.1, mu_k (by decide)]
        unfold npl
        omega
      simp only [wp_c, st_iload, st_lload, st_aload, st_istore, st_lstore, st_astore, st_iinc, st_sipush, st_jsr_w, st_goto, st_jsr, st_goto_w, st_if_icmp, st_ifCond, st_iadd, st_isub, st_imul, st_idiv, st_irem, st_iand, st_ior, st_ixor, st_ishl, st_ishr, st_iushr, st_ladd, st_lsub, st_lmul, st_ldiv, st_lrem, st_land, st_lor, st_lshl, st_lshr, st_i2l, st_l2i, st_i2b, st_i2s, st_i2c, st_lcmp, st_dup, st_pop, st_dup2, st_pop2, st_getfield, st_getstatic, st_checkcast, st_instanceof, st_putfield, st_putstatic, st_dstore, st_iaload, st_baload, st_laload, st_aaload, st_iastore, st_bastore, st_lastore, st_arraylength, st_dcmpg, st_dcmpl, st_fcmpg, st_fcmpl, st_monitorenter, st_tableswitch, st_multianewarray, st_invokeinterface, st_ireturn, st_lreturn, st_return_, st_ldc, st_ldc_w, st_ldc2_w, st_freturn, st_invokevirtual, st_anewarray0, st_anewarray1, st_anewarray2, st_anewarray3, st_anewarray4, st_anewarray5, st_lookupswitch, popI_c, popL_c, popR_c, popV_c, getI_c, getL_c, getR_c, lg_z, lg_s, ls1_z, ls1_o, ls1_s, ls2_z, ls2_o, ls2_s, noL_i, noL_l, noL_r, isL_i, isL_l, isL_r, tk_z, tk_s, psh_n, psh_s, ent_e, entL_n, entL_c, cc_eq, cc_ne, cc_lt, cc_ge, cc_gt, cc_le, swt_n, swt_c, lsw_n, lsw_c, mPs, NSTR_e, akds, alens, cnts, arfs, inb_e, lcm_lt, lcm_gt, lcm_ge, lcm_le, lcm_eq, lcm_a, lcm_b, Int.reduceToNat, Nat.reduceDiv, Nat.reduceMod, Nat.reduceMul, Nat.reduceAdd, Nat.reduceSub, Nat.reduceLT, Nat.reduceLeDiff, Nat.reduceEqDiff, Int.reduceNeg, Int.reduceAdd, Nat.one_mul, Nat.zero_mul, Nat.add_zero, Nat.zero_add, if_true, if_false, eq_self, true_and, and_true, true_or, or_true, false_or, or_false, List.length_cons, List.length_nil, List.cons_append, List.nil_append, List.replicate_zero, List.replicate_succ, Nat.lt_irrefl, reduceCtorEq, Bool.false_eq_true, in32, in64, Int.reduceLE, Int.reduceLT, Int.reduceEq, Int.reduceNe, not_true_eq_false, not_false_eq_true, true_implies, false_implies, implies_true, false_and, and_false, and_self, sA_goto_w, sA_dcmpg, sA_dcmpl, sA_multianewarray, sA_invokeinterface, sA_invokespecial, sA_new, sA_fload, sA_aconst_null, sA_areturn, sA_ireturn, sA_ifnonnull, sA_faload, sA_caload, pA_iload, pA_aload, pA_istore, pA_iinc, pA_sipush, pA_jsr_w, pA_goto, pA_jsr, pA_if_icmp, pA_ifCond, pA_iadd, pA_isub, pA_iand, pA_land, pA_lor, pA_lshl, pA_i2l, pA_lcmp, pA_getfield, pA_checkcast, pA_instanceof, pA_putfield, pA_putstatic, pA_arraylength, pA_tableswitch, pA_ldc, pA_ldc_w, wpA_c, TA_i, TA_r, isRV_r, nrl_n, nrl_i, nrl_l, nrl_0, nrl_r, rmC_c, rmC_s, mPA, objA, Nat.reduceBEq, Bool.or_false, Bool.or_self, Bool.not_false, Bool.true_and, Bool.false_and, decide_false, Nat.reduceLeDiff, b_Y11_bridge, r_Y11_bridge, Sum.inr.injEq]
      (repeat' with_reducible first | apply And.intro | intro _)
      all_goals try omega
      refine c_begin10 (D := D) (A := D) (s := s) (by decide) hl p1 oD (fun j _ => rfl) (fun σ2 x2 g2 g3 g4 => ?_)
      have f3 : ∀ K i : Nat, ¬ (K = 27 ∨ K = 28 ∨ K = 39 ∨ ((K = 7 ∨ K = 10 ∨ K = 33 ∨ K = 34 ∨ K = 35) ∧ i = 0)) → σ2 K i = σ1 K i := fun K i h => x2 K i (by simp; omega) (by simp; omega)
      have m60 : mu σ2 2 0 2 0 60 0 0 = σ2 60 0 0 := by rw [mu_k (by decide)]
      have m3 : mu σ2 2 0 2 0 3 (npl σ) 9 = D 0 := by rw [mu_k (by decide), f3 3 _ (by omega)]; exact p1.1
      have n60 : (σ2 60 0 0).toNat = npl σ + 1 := by rw [f3 60 0 (by omega)]; exact e60
      have hb : brf σ (mu σ2 2 0 2 0) := by
        refine ⟨fun K i h => ?_, fun i j h => ?_, ?_, ?_, fun k hk => ?_, ?_, fun k hk => ?_⟩
        · rw [mu_row (by omega), f3 K i (by omega), x1.1 K i (by rw [hn]; omega), mu_row (by omega)]
        · rw [mu_k (by decide), f3 61 i (by omega), x1.2.1 i j (by rw [hn]; exact h), mu_k (by decide)]
        · rw [mu_k (by decide), f3 60 0 (by omega), x1.2.2.1, mu_k (by decide)]
        · rw [mu_k (by decide), f3 4 0 (by omega), x1.2.2.2, hn]
        · rw [mu_k (by decide), f3 11 0 (by omega), x1.1 11 0 (by omega), mu_at, if_neg hk]
        · rw [mu_k (by decide), f3 11 0 (by omega), x1.1 11 0 (by omega), mu_at, if_pos rfl]
        · rw [mu_at, if_neg hk, f3 2 0 (by omega), x1.1 2 0 (by omega), mu_k (by decide)]
      have hf : faC (mu σ2 2 0 2 0) 0 (-1) := by
        unfold faC
        rw [mu_k (by decide), f3 4 0 (by omega)]
        exact g1
      have xm : eqx [2] σ2 (mu σ2 2 0 2 0) := eqx_mu eqx.rf (by decide)
      have := hS s D hh oD (mu σ2 2 0 2 0) hb hf (by rw [mu_at, if_pos rfl]) (by unfold pln; rw [mu_k (by decide)]; exact g2) (by rw [V_2 xm]; exact g3) (WI_2 xm g4)
      simp only [wp_c, st_iload, st_lload, st_aload, st_istore, st_lstore, st_astore, st_iinc, st_sipush, st_jsr_w, st_goto, st_jsr, st_goto_w, st_if_icmp, st_ifCond, st_iadd, st_isub, st_imul, st_idiv, st_irem, st_iand, st_ior, st_ixor, st_ishl, st_ishr, st_iushr, st_ladd, st_lsub, st_lmul, st_ldiv, st_lrem, st_land, st_lor, st_lshl, st_lshr, st_i2l, st_l2i, st_i2b, st_i2s, st_i2c, st_lcmp, st_dup, st_pop, st_dup2, st_pop2, st_getfield, st_getstatic, st_checkcast, st_instanceof, st_putfield, st_putstatic, st_dstore, st_iaload, st_baload, st_laload, st_aaload, st_iastore, st_bastore, st_lastore, st_arraylength, st_dcmpg, st_dcmpl, st_fcmpg, st_fcmpl, st_monitorenter, st_tableswitch, st_multianewarray, st_invokeinterface, st_ireturn, st_lreturn, st_return_, st_ldc, st_ldc_w, st_ldc2_w, st_freturn, st_invokevirtual, st_anewarray0, st_anewarray1, st_anewarray2, st_anewarray3, st_anewarray4, st_anewarray5, st_lookupswitch, popI_c, popL_c, popR_c, popV_c, getI_c, getL_c, getR_c, lg_z, lg_s, ls1_z, ls1_o, ls1_s, ls2_z, ls2_o, ls2_s, noL_i, noL_l, noL_r, isL_i, isL_l, isL_r, tk_z, tk_s, psh_n, psh_s, ent_e, entL_n, entL_c, cc_eq, cc_ne, cc_lt, cc_ge, cc_gt, cc_le, swt_n, swt_c, lsw_n, lsw_c, mPs, NSTR_e, akds, alens, cnts, arfs, inb_e, lcm_lt, lcm_gt, lcm_ge, lcm_le, lcm_eq, lcm_a, lcm_b, Int.reduceToNat, Nat.reduceDiv, Nat.reduceMod, Nat.reduceMul, Nat.reduceAdd, Nat.reduceSub, Nat.reduceLT, Nat.reduceLeDiff, Nat.reduceEqDiff, Int.reduceNeg, Int.reduceAdd, Nat.one_mul, Nat.zero_mul, Nat.add_zero, Nat.zero_add, if_true, if_false, eq_self, true_and, and_true, true_or, or_true, false_or, or_false, List.length_cons, List.length_nil, List.cons_append, List.nil_append, List.replicate_zero, List.replicate_succ, Nat.lt_irrefl, reduceCtorEq, Bool.false_eq_true, in32, in64, Int.reduceLE, Int.reduceLT, Int.reduceEq, Int.reduceNe, not_true_eq_false, not_false_eq_true, true_implies, false_implies, implies_true, false_and, and_false, and_self, sA_goto_w, sA_dcmpg, sA_dcmpl, sA_multianewarray, sA_invokeinterface, sA_invokespecial, sA_new, sA_fload, sA_aconst_null, sA_areturn, sA_ireturn, sA_ifnonnull, sA_faload, sA_caload, pA_iload, pA_aload, pA_istore, pA_iinc, pA_sipush, pA_jsr_w, pA_goto, pA_jsr, pA_if_icmp, pA_ifCond, pA_iadd, pA_isub, pA_iand, pA_land, pA_lor, pA_lshl, pA_i2l, pA_lcmp, pA_getfield, pA_checkcast, pA_instanceof, pA_putfield, pA_putstatic, pA_arraylength, pA_tableswitch, pA_ldc, pA_ldc_w, wpA_c, TA_i, TA_r, isRV_r, nrl_n, nrl_i, nrl_l, nrl_0, nrl_r, rmC_c, rmC_s, mPA, objA, Nat.reduceBEq, Bool.or_false, Bool.or_self, Bool.not_false, Bool.true_and, Bool.false_and, decide_false, Nat.reduceLeDiff, b_Y11_bridge, r_Y11_bridge]
      (repeat' with_reducible first | apply And.intro | intro _)
      all_goals try omega
      refine c_forget ?_
      simp only [wp_c, st_iload, st_lload, st_aload, st_istore, st_lstore, st_astore, st_iinc, st_sipush, st_jsr_w, st_goto, st_jsr, st_goto_w, st_if_icmp, st_ifCond, st_iadd, st_isub, st_imul, st_idiv, st_irem, st_iand, st_ior, st_ixor, st_ishl, st_ishr, st_iushr, st_ladd, st_lsub, st_lmul, st_ldiv, st_lrem, st_land, st_lor, st_lshl, st_lshr, st_i2l, st_l2i, st_i2b, st_i2s, st_i2c, st_lcmp, st_dup, st_pop, st_dup2, st_pop2, st_getfield, st_getstatic, st_checkcast, st_instanceof, st_putfield, st_putstatic, st_dstore, st_iaload, st_baload, st_laload, st_aaload, st_iastore, st_bastore, st_lastore, st_arraylength, st_dcmpg, st_dcmpl, st_fcmpg, st_fcmpl, st_monitorenter, st_tableswitch, st_multianewarray, st_invokeinterface, st_ireturn, st_lreturn, st_return_, st_ldc, st_ldc_w, st_ldc2_w, st_freturn, st_invokevirtual, st_anewarray0, st_anewarray1, st_anewarray2, st_anewarray3, st_anewarray4, st_anewarray5, st_lookupswitch, popI_c, popL_c, popR_c, popV_c, getI_c, getL_c, getR_c, lg_z, lg_s, ls1_z, ls1_o, ls1_s, ls2_z, ls2_o, ls2_s, noL_i, noL_l, noL_r, isL_i, isL_l, isL_r, tk_z, tk_s, psh_n, psh_s, ent_e, entL_n, entL_c, cc_eq, cc_ne, cc_lt, cc_ge, cc_gt, cc_le, swt_n, swt_c, lsw_n, lsw_c, mPs, NSTR_e, akds, alens, cnts, arfs, inb_e, lcm_lt, lcm_gt, lcm_ge, lcm_le, lcm_eq, lcm_a, lcm_b, Int.reduceToNat, Nat.reduceDiv, Nat.reduceMod, Nat.reduceMul, Nat.reduceAdd, Nat.reduceSub, Nat.reduceLT, Nat.reduceLeDiff, Nat.reduceEqDiff, Int.reduceNeg, Int.reduceAdd, Nat.one_mul, Nat.zero_mul, Nat.add_zero, Nat.zero_add, if_true, if_false, eq_self, true_and, and_true, true_or, or_true, false_or, or_false, List.length_cons, List.length_nil, List.cons_append, List.nil_append, List.replicate_zero, List.replicate_succ, Nat.lt_irrefl, reduceCtorEq, Bool.false_eq_true, in32, in64, Int.reduceLE, Int.reduceLT, Int.reduceEq, Int.reduceNe, not_true_eq_false, not_false_eq_true, true_implies, false_implies, implies_true, false_and, and_false, and_self, sA_goto_w, sA_dcmpg, sA_dcmpl, sA_multianewarray, sA_invokeinterface, sA_invokespecial, sA_new, sA_fload, sA_aconst_null, sA_areturn, sA_ireturn, sA_ifnonnull, sA_faload, sA_caload, pA_iload, pA_aload, pA_istore, pA_iinc, pA_sipush, pA_jsr_w, pA_goto, pA_jsr, pA_if_icmp, pA_ifCond, pA_iadd, pA_isub, pA_iand, pA_land, pA_lor, pA_lshl, pA_i2l, pA_lcmp, pA_getfield, pA_checkcast, pA_instanceof, pA_putfield, pA_putstatic, pA_arraylength, pA_tableswitch, pA_ldc, pA_ldc_w, wpA_c, TA_i, TA_r, isRV_r, nrl_n, nrl_i, nrl_l, nrl_0, nrl_r, rmC_c, rmC_s, mPA, objA, Nat.reduceBEq, Bool.or_false, Bool.or_self, Bool.not_false, Bool.true_and, Bool.false_and, decide_false, Nat.reduceLeDiff, b_Y11_bridge, r_Y11_bridge, m60, m3]
      (repeat' with_reducible first | apply And.intro | intro _)
      all_goals try omega
      all_goals exact this
  · exact hB (by omega)
end CBRIDGE
