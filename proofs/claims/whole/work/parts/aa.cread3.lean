/-! aa: the class reads a text into a plan -/
section CREAD3
variable {d n : Nat} {σ σ' : Mem} {K : Option AV → Mem → Prop} {T : Int → Int} {L s v : Int} {D : BV}
/-- what reading changes -/
def rdf (σ σ' : Mem) : Prop := (∀ K i : Nat, ¬ (K = 4 ∨ K = 26 ∨ K = 60 ∨ K = 61 ∨ ((K = 3 ∨ (21 ≤ K ∧ K ≤ 25)) ∧ i = npl σ)) → σ' K i = σ K i) ∧ (∀ i j : Nat, ¬ ((i = 24 ∨ i = 25) ∧ j = npl σ) → σ' 61 i j = σ 61 i j) ∧ σ' 60 0 0 = σ 60 0 0 + 1 ∧ (σ' 4 0 9).toNat = npl σ
theorem PD_new : PD (newP σ) (npl σ) (D_0 1 0) := by
  have e3 : ∀ k : Nat, newP σ 3 (npl σ) k = if k = 5 then 1 else 0 := fun k => by
    unfold newP
    rw [if_neg (by omega), if_pos ⟨rfl, rfl⟩]
  have e2 : ∀ K k : Nat, 21 ≤ K → K ≤ 25 → newP σ K (npl σ) k = 0 := fun K k h1 h2 => by
    unfold newP
    rw [if_neg (by omega), if_neg (by omega), if_pos ⟨⟨h1, h2⟩, rfl⟩]
  have e6 : ∀ i : Nat, (i = 24 ∨ i = 25) → newP σ 61 i (npl σ) = 0 := fun i h => by
    unfold newP
    rw [if_neg (by omega), if_neg (by omega), if_neg (by omega), if_pos ⟨rfl, h, rfl⟩]
  have ez : ∀ j : Nat, ¬ j = 1 → D_0 1 0 j = 0 := fun j h => by
    unfold D_0
    rw [if_neg h]
    split <;> rfl
  unfold PD lawC
  rw [D_0_law (by decide), D_0_law (by decide)]
  refine ⟨by rw [e3, ez 0 (by decide)]; rfl, by rw [e3]; rfl, by rw [e3, ez 2 (by decide)]; rfl, by rw [e3, ez 3 (by decide)]; rfl, by rw [e3, ez 18 (by decide)]; rfl, fun k hk => by rw [e2 21 k (by decide) (by decide), ez _ (by omega)], fun k hk => by rw [e2 22 k (by decide) (by decide), ez _ (by omega)], fun k hk => by rw [e2 23 k (by decide) (by decide), ez _ (by omega)], ⟨e6 24 (Or.inl rfl), by simp, fun i c h => by cases h⟩, ⟨e6 25 (Or.inr rfl), by simp, fun i c h => by cases h⟩⟩
theorem lfr.okp (h : lfr n σ σ') (hr : rp σ n) : rp σ' n := ⟨by rw [h.2.2 9 (by omega)]; exact hr.1, by rw [h.1 60 0 (by omega)]; exact hr.2⟩
set_option maxRecDepth 4000 in
theorem c_read {k : Int} (hk : 0 ≤ k ∧ k ≤ 900) (hT : ∀ i : Int, 0 ≤ i → i < k → σ 40 0 i.toNat = (T i).bmod 256 ∧ 0 ≤ T i ∧ T i < 256) (hp : ppn σ)
    (hX : ∀ w q, L_all T k = .inr (w, q) → ∀ σ', rdf σ σ' → faC σ' w q → K (some (.inr (.inr none))) σ')
    (hS : ∀ s D, L_all T k = .inl (s, D) → DOk D s → ∀ σ', rdf σ σ' → faC σ' 0 (-1) → PD σ' (npl σ) D → K (some (.inr (.inr (some (3, npl σ))))) σ') : EvA (d + 64) 906 960 24 [rdo, .inl k] σ K := by
  have im : imax 0 (imin k 900) = k := by
    unfold imax imin
    (repeat' split) <;> omega
  have k6 : isK 40 = true ∧ ¬ 40 < 13 ∧ aet 40 < 7 := by decide
  have i9 : 0 ≤ imin k 900 ∧ imin k 900 ≤ 900 := by
    unfold imin
    split <;> omega
  have P0 : ∀ σ0 : Mem, mu (mu (mu (mu σ 4 0 2 k) 4 0 4 0) 4 0 10 0) 4 0 11 (-1) = σ0 → (∀ j : Nat, σ0 4 0 j = if j = 11 then -1 else if j = 10 then 0 else if j = 4 then 0 else if j = 2 then k else σ 4 0 j) ∧ eqx [4] σ σ0 ∧ npl σ0 = npl σ ∧ ppn σ0 := by
    intro σ0 hσ0
    have z4 : ∀ j : Nat, σ0 4 0 j = if j = 11 then -1 else if j = 10 then 0 else if j = 4 then 0 else if j = 2 then k else σ 4 0 j := fun j => by rw [← hσ0, mu_at, mu_at, mu_at, mu_at]
    have z0 : eqx [4] σ σ0 := by rw [← hσ0]; exact eqx_mu (eqx_mu (eqx_mu (eqx_mu eqx.rf (by decide)) (by decide)) (by decide)) (by decide)
    have hn : npl σ0 = npl σ := by unfold npl; rw [z0 60 (by decide)]
    refine ⟨z4, z0, hn, ?_⟩
    unfold ppn
    rw [hn, z0 60 (by decide), z0 10 (by decide), z4 9, if_neg (by decide), if_neg (by decide), if_neg (by decide), if_neg (by decide)]
    exact hp
  refine e_Y4_read (Nat.le_of_ble_eq_true rfl) (by omega) ?_
  simp only [wp_c, st_iload, st_lload, st_aload, st_istore, st_lstore, st_astore, st_iinc, st_sipush, st_jsr_w, st_goto, st_jsr, st_goto_w, st_if_icmp, st_ifCond, st_iadd, st_isub, st_imul, st_idiv, st_irem, st_iand, st_ior, st_ixor, st_ishl, st_ishr, st_iushr, st_ladd, st_lsub, st_lmul, st_ldiv, st_lrem, st_land, st_lor, st_lshl, st_lshr, st_i2l, st_l2i, st_i2b, st_i2s, st_i2c, st_lcmp, st_dup, st_pop, st_dup2, st_pop2, st_getfield, st_getstatic, st_checkcast, st_instanceof, st_putfield, st_putstatic, st_dstore, st_iaload, st_baload, st_laload, st_aaload, st_iastore, st_bastore, st_lastore, st_arraylength, st_dcmpg, st_dcmpl, st_fcmpg, st_fcmpl, st_monitorenter, st_tableswitch, st_multianewarray, st_invokeinterface, st_ireturn, st_lreturn, st_return_, st_ldc, st_ldc_w, st_ldc2_w, st_freturn, st_invokevirtual, st_anewarray0, st_anewarray1, st_anewarray2, st_anewarray3, st_anewarray4, st_anewarray5, st_lookupswitch, popI_c, popL_c, popR_c, popV_c, getI_c, getL_c, getR_c, lg_z, lg_s, ls1_z, ls1_o, ls1_s, ls2_z, ls2_o, ls2_s, noL_i, noL_l, noL_r, isL_i, isL_l, isL_r, tk_z, tk_s, psh_n, psh_s, ent_e, entL_n, entL_c, cc_eq, cc_ne, cc_lt, cc_ge, cc_gt, cc_le, swt_n, swt_c, lsw_n, lsw_c, mPs, NSTR_e, akds, alens, cnts, arfs, inb_e, lcm_lt, lcm_gt, lcm_ge, lcm_le, lcm_eq, lcm_a, lcm_b, Int.reduceToNat, Nat.reduceDiv, Nat.reduceMod, Nat.reduceMul, Nat.reduceAdd, Nat.reduceSub, Nat.reduceLT, Nat.reduceLeDiff, Nat.reduceEqDiff, Int.reduceNeg, Int.reduceAdd, Nat.one_mul, Nat.zero_mul, Nat.add_zero, Nat.zero_add, if_true, if_false, eq_self, true_and, and_true, true_or, or_true, false_or, or_false, List.length_cons, List.length_nil, List.cons_append, List.nil_append, List.replicate_zero, List.replicate_succ, Nat.lt_irrefl, reduceCtorEq, Bool.false_eq_true, in32, in64, Int.reduceLE, Int.reduceLT, Int.reduceEq, Int.reduceNe, not_true_eq_false, not_false_eq_true, true_implies, false_implies, implies_true, false_and, and_false, and_self, sA_goto_w, sA_dcmpg, sA_dcmpl, sA_multianewarray, sA_invokeinterface, sA_invokespecial, sA_new, sA_fload, sA_aconst_null, sA_areturn, sA_ireturn, sA_ifnonnull, sA_faload, sA_caload, pA_iload, pA_aload, pA_istore, pA_iinc, pA_sipush, pA_jsr_w, pA_goto, pA_jsr, pA_if_icmp, pA_ifCond, pA_iadd, pA_isub, pA_iand, pA_land, pA_lor, pA_lshl, pA_i2l, pA_lcmp, pA_getfield, pA_checkcast, pA_instanceof, pA_putfield, pA_putstatic, pA_arraylength, pA_tableswitch, pA_ldc, pA_ldc_w, wpA_c, TA_i, TA_r, isRV_r, nrl_n, nrl_i, nrl_l, nrl_0, nrl_r, rmC_c, rmC_s, mPA, objA, Nat.reduceBEq, Bool.or_false, Bool.or_self, Bool.not_false, Bool.true_and, Bool.false_and, decide_false, Nat.reduceLeDiff, b_Y4_read, r_Y4_read, im, k6]
  (repeat' with_reducible first | apply And.intro | intro _)
  all_goals try omega
  · exact (P0 _ rfl).2.2.2
  generalize hσ0 : mu (mu (mu (mu σ 4 0 2 k) 4 0 4 0) 4 0 10 0) 4 0 11 (-1) = σ0
  obtain ⟨z4, z0, hn, hp0⟩ := P0 σ0 hσ0
  rw [hn]
  generalize hσ1 : mu (newP σ0) 4 0 9 ((npl σ : Nat) : Int) = σ1
  have hw0 := hp.1
  have f1 : ∀ K i : Nat, ¬ (K = 4 ∨ K = 26 ∨ K = 60 ∨ K = 61 ∨ ((K = 3 ∨ (21 ≤ K ∧ K ≤ 25)) ∧ i = npl σ)) → σ1 K i = σ K i := fun K i h => by
    funext c
    rw [← hσ1, mu_k (by omega), newP_o (by omega) (by unfold pk; rw [hn]; omega) (by omega), z0 K (by simp; omega)]
  have f61 : ∀ i j : Nat, ¬ ((i = 24 ∨ i = 25) ∧ j = npl σ) → σ1 61 i j = σ 61 i j := fun i j h => by
    rw [← hσ1, mu_k (by decide), newP_61 (by rw [hn]; exact h), z0 61 (by decide)]
  have f60 : σ1 60 0 0 = σ 60 0 0 + 1 := by
    rw [← hσ1, mu_k (by decide)]
    unfold newP
    rw [if_pos ⟨rfl, rfl, rfl⟩, z0 60 (by decide)]
  have f4 : ∀ j : Nat, σ1 4 0 j = if j = 9 then ((npl σ : Nat) : Int) else σ0 4 0 j := fun j => by
    rw [← hσ1, mu_at]
    by_cases c : j = 9
    · rw [if_pos c, if_pos c]
    · rw [if_neg c, if_neg c, newP_o (by decide) (by unfold pk; omega) (by decide)]
  have r1 : rp σ1 (npl σ) := ⟨by rw [f4, if_pos rfl, Int.toNat_natCast], by rw [f60]; unfold npl; omega⟩
  have p1 : PD σ1 (npl σ) (D_0 1 0) := by
    rw [← hσ1, ← hn]
    exact PD_new.x (M := [4]) (eqx_mu eqx.rf (by decide)) (by decide)
  have rd : ∀ σc : Mem, lfr (npl σ) σ1 σc → rdf σ σc := fun σc x => ⟨fun K i h => by rw [x.1 K i (by omega)]; exact f1 K i h, fun i j h => by rw [x.2.1 i j h]; exact f61 i j h, by rw [x.1 60 0 (by omega)]; exact f60, by rw [x.2.2 9 (by omega)]; exact r1.1⟩
  have nx0 := lxS_b (T := T) (p := 0) (L := k) ⟨by omega, hk.1⟩
  refine c_advance (p := 0) (T := T) (L := k) ⟨by omega, hk.1⟩ (by rw [f4, if_neg (by decide), z4]; rfl) (by rw [f4, if_neg (by decide), z4]; rfl) hk.2 (fun i a b => by rw [f1 40 0 (by omega)]; exact (hT i a b).1) (fun i a b => (hT i a b).2) (fun σ2 x2 g3 g4 g5 g6 => ?_)
  have o2 : okC σ2 T k (lxS T k 0) := by
    refine ⟨⟨?_, hk, fun i a b => ?_, fun i a b => (hT i a b).2⟩, ⟨g3, g4, g5, g6⟩, by omega, nx0.2⟩
    · rw [x2.2 2 (by omega), f4, if_neg (by decide), z4]; rfl
    · rw [x2.1 40 (by decide), f1 40 0 (by omega)]; exact (hT i a b).1
  have r2 := r1.w x2.w
  have p2 := p1.x x2.1 (by decide)
  have l2 : lfr (npl σ) σ1 σ2 := x2.lf
  have fa1 : faC σ1 0 (-1) := ⟨by rw [f4, if_neg (by decide), z4]; rfl, by rw [f4, if_neg (by decide), z4]; rfl⟩
  have fas : ∀ σc : Mem, same σ1 σc → faC σc 0 (-1) := fun σc h => ⟨h.1.trans fa1.1, h.2.trans fa1.2⟩
  -- failed
  have EX : ∀ (c s : Nat) (i : Int) (σc : Mem) (w q : Int), c ≤ 906 → s ≤ 960 → 0 ≤ i ∧ i ≤ 1000 → L_all T k = .inr (w, q) → lfr (npl σ) σ1 σc → faC σc w q → RnG (rmC (d + 64) 906 960, c, s) 24 54 [rdo, .inl k, .inl 0, .inl i] [] σc (YA K 906 960) := by
    intro c s i σc w q hc hs hi hh xc gc
    have := hX w q hh σc (rd σc xc) gc
    refine l_Y4_read_54 (by omega) hc hs ?_
    simp only [wp_c, st_iload, st_lload, st_aload, st_istore, st_lstore, st_astore, st_iinc, st_sipush, st_jsr_w, st_goto, st_jsr, st_goto_w, st_if_icmp, st_ifCond, st_iadd, st_isub, st_imul, st_idiv, st_irem, st_iand, st_ior, st_ixor, st_ishl, st_ishr, st_iushr, st_ladd, st_lsub, st_lmul, st_ldiv, st_lrem, st_land, st_lor, st_lshl, st_lshr, st_i2l, st_l2i, st_i2b, st_i2s, st_i2c, st_lcmp, st_dup, st_pop, st_dup2, st_pop2, st_getfield, st_getstatic, st_checkcast, st_instanceof, st_putfield, st_putstatic, st_dstore, st_iaload, st_baload, st_laload, st_aaload, st_iastore, st_bastore, st_lastore, st_arraylength, st_dcmpg, st_dcmpl, st_fcmpg, st_fcmpl, st_monitorenter, st_tableswitch, st_multianewarray, st_invokeinterface, st_ireturn, st_lreturn, st_return_, st_ldc, st_ldc_w, st_ldc2_w, st_freturn, st_invokevirtual, st_anewarray0, st_anewarray1, st_anewarray2, st_anewarray3, st_anewarray4, st_anewarray5, st_lookupswitch, popI_c, popL_c, popR_c, popV_c, getI_c, getL_c, getR_c, lg_z, lg_s, ls1_z, ls1_o, ls1_s, ls2_z, ls2_o, ls2_s, noL_i, noL_l, noL_r, isL_i, isL_l, isL_r, tk_z, tk_s, psh_n, psh_s, ent_e, entL_n, entL_c, cc_eq, cc_ne, cc_lt, cc_ge, cc_gt, cc_le, swt_n, swt_c, lsw_n, lsw_c, mPs, NSTR_e, akds, alens, cnts, arfs, inb_e, lcm_lt, lcm_gt, lcm_ge, lcm_le, lcm_eq, lcm_a, lcm_b, Int.reduceToNat, Nat.reduceDiv, Nat.reduceMod, Nat.reduceMul, Nat.reduceAdd, Nat.reduceSub, Nat.reduceLT, Nat.reduceLeDiff, Nat.reduceEqDiff, Int.reduceNeg, Int.reduceAdd, Nat.one_mul, Nat.zero_mul, Nat.add_zero, Nat.zero_add, if_true, if_false, eq_self, true_and, and_true, true_or, or_true, false_or, or_false, List.length_cons, List.length_nil, List.cons_append, List.nil_append, List.replicate_zero, List.replicate_succ, Nat.lt_irrefl, reduceCtorEq, Bool.false_eq_true, in32, in64, Int.reduceLE, Int.reduceLT, Int.reduceEq, Int.reduceNe, not_true_eq_false, not_false_eq_true, true_implies, false_implies, implies_true, false_and, and_false, and_self, sA_goto_w, sA_dcmpg, sA_dcmpl, sA_multianewarray, sA_invokeinterface, sA_invokespecial, sA_new, sA_fload, sA_aconst_null, sA_areturn, sA_ireturn, sA_ifnonnull, sA_faload, sA_caload, pA_iload, pA_aload, pA_istore, pA_iinc, pA_sipush, pA_jsr_w, pA_goto, pA_jsr, pA_if_icmp, pA_ifCond, pA_iadd, pA_isub, pA_iand, pA_land, pA_lor, pA_lshl, pA_i2l, pA_lcmp, pA_getfield, pA_checkcast, pA_instanceof, pA_putfield, pA_putstatic, pA_arraylength, pA_tableswitch, pA_ldc, pA_ldc_w, wpA_c, TA_i, TA_r, isRV_r, nrl_n, nrl_i, nrl_l, nrl_0, nrl_r, rmC_c, rmC_s, mPA, objA, Nat.reduceBEq, Bool.or_false, Bool.or_self, Bool.not_false, Bool.true_and, Bool.false_and, decide_false, Nat.reduceLeDiff, b_Y4_read, r_Y4_read, h_Y4_read_54]
    (repeat' with_reducible first | apply And.intro | intro _)
    all_goals try omega
    all_goals exact this
  have LN : ∀ (m : Nat) (c s : Nat) (s1 i : Int) (D1 : BV) (σc : Mem), lfr (npl σ) σ1 σc → same σ1 σc → okC σc T k s1 → PD σc (npl σ) D1 → DOk D1 s1 → k - s1 + 1 ≤ m → 0 ≤ i ∧ i ≤ s1 → (c : Int) ≤ 6 + s1 → (s : Int) ≤ 60 + s1 → L_lines T k m s1 D1 = L_all T k → RnG (rmC (d + 64) 906 960, c, s) 24 54 [rdo, .inl k, .inl 1, .inl i] [] σc (YA K 906 960) := by
    intro m
    induction m with
    | zero =>
      intro c s s1 i D1 σc xc yc gc pc oc hm hi hc hs hh
      have := gc.2.2
      omega
    | succ m ih =>
      intro c s s1 i D1 σc xc yc gc pc oc hm hi hc hs hh
      have b1 := gc.2.2
      have h5 : σc 4 0 5 = cxK T k s1 := gc.2.1.2.2.1
      have k32 := cxK_32 (T := T) (L := k) (s := s1)
      unfold in32 at k32
      have rc := xc.okp r1
      have e9 := rc.1
      have hh : (if lxK T k s1 = 25 then .inl (s1, D1) else match L_end T k (L_one T k s1 D1) with
        | .inl q => L_lines T k m q.1 q.2
        | .inr e => .inr e) = L_all T k := hh
      by_cases c25 : lxK T k s1 = 25
      · rw [if_pos c25] at hh
        have c0 := cxK_0.mpr c25
        rw [c0] at h5
        have := hS s1 D1 hh.symm oc σc (rd σc xc) (fas σc yc) pc
        refine l_Y4_read_54 (by omega) (by omega) (by omega) ?_
        simp only [wp_c, st_iload, st_lload, st_aload, st_istore, st_lstore, st_astore, st_iinc, st_sipush, st_jsr_w, st_goto, st_jsr, st_goto_w, st_if_icmp, st_ifCond, st_iadd, st_isub, st_imul, st_idiv, st_irem, st_iand, st_ior, st_ixor, st_ishl, st_ishr, st_iushr, st_ladd, st_lsub, st_lmul, st_ldiv, st_lrem, st_land, st_lor, st_lshl, st_lshr, st_i2l, st_l2i, st_i2b, st_i2s, st_i2c, st_lcmp, st_dup, st_pop, st_dup2, st_pop2, st_getfield, st_getstatic, st_checkcast, st_instanceof, st_putfield, st_putstatic, st_dstore, st_iaload, st_baload, st_laload, st_aaload, st_iastore, st_bastore, st_lastore, st_arraylength, st_dcmpg, st_dcmpl, st_fcmpg, st_fcmpl, st_monitorenter, st_tableswitch, st_multianewarray, st_invokeinterface, st_ireturn, st_lreturn, st_return_, st_ldc, st_ldc_w, st_ldc2_w, st_freturn, st_invokevirtual, st_anewarray0, st_anewarray1, st_anewarray2, st_anewarray3, st_anewarray4, st_anewarray5, st_lookupswitch, popI_c, popL_c, popR_c, popV_c, getI_c, getL_c, getR_c, lg_z, lg_s, ls1_z, ls1_o, ls1_s, ls2_z, ls2_o, ls2_s, noL_i, noL_l, noL_r, isL_i, isL_l, isL_r, tk_z, tk_s, psh_n, psh_s, ent_e, entL_n, entL_c, cc_eq, cc_ne, cc_lt, cc_ge, cc_gt, cc_le, swt_n, swt_c, lsw_n, lsw_c, mPs, NSTR_e, akds, alens, cnts, arfs, inb_e, lcm_lt, lcm_gt, lcm_ge, lcm_le, lcm_eq, lcm_a, lcm_b, Int.reduceToNat, Nat.reduceDiv, Nat.reduceMod, Nat.reduceMul, Nat.reduceAdd, Nat.reduceSub, Nat.reduceLT, Nat.reduceLeDiff, Nat.reduceEqDiff, Int.reduceNeg, Int.reduceAdd, Nat.one_mul, Nat.zero_mul, Nat.add_zero, Nat.zero_add, if_true, if_false, eq_self, true_and, and_true, true_or, or_true, false_or, or_false, List.length_cons, List.length_nil, List.cons_append, List.nil_append, List.replicate_zero, List.replicate_succ, Nat.lt_irrefl, reduceCtorEq, Bool.false_eq_true, in32, in64, Int.reduceLE, Int.reduceLT, Int.reduceEq, Int.reduceNe, not_true_eq_false, not_false_eq_true, true_implies, false_implies, implies_true, false_and, and_false, and_self, sA_goto_w, sA_dcmpg, sA_dcmpl, sA_multianewarray, sA_invokeinterface, sA_invokespecial, sA_new, sA_fload, sA_aconst_null, sA_areturn, sA_ireturn, sA_ifnonnull, sA_faload, sA_caload, pA_iload, pA_aload, pA_istore, pA_iinc, pA_sipush, pA_jsr_w, pA_goto, pA_jsr, pA_if_icmp, pA_ifCond, pA_iadd, pA_isub, pA_iand, pA_land, pA_lor, pA_lshl, pA_i2l, pA_lcmp, pA_getfield, pA_checkcast, pA_instanceof, pA_putfield, pA_putstatic, pA_arraylength, pA_tableswitch, pA_ldc, pA_ldc_w, wpA_c, TA_i, TA_r, isRV_r, nrl_n, nrl_i, nrl_l, nrl_0, nrl_r, rmC_c, rmC_s, mPA, objA, Nat.reduceBEq, Bool.or_false, Bool.or_self, Bool.not_false, Bool.true_and, Bool.false_and, decide_false, Nat.reduceLeDiff, b_Y4_read, r_Y4_read, h_Y4_read_54, h5, e9]
        (repeat' with_reducible first | apply And.intro | intro _)
        all_goals try omega
        all_goals exact this
      · rw [if_neg c25] at hh
        have c0 : ¬ cxK T k s1 = 0 := fun x => c25 (cxK_0.mp x)
        cases hx : L_end T k (L_one T k s1 D1) with
        | inl q =>
          rw [hx] at hh
          have hh : L_lines T k m q.1 q.2 = L_all T k := hh
          obtain ⟨p5, p6, p7⟩ := L_line_ok (T := T) (by omega) b1 oc hx
          refine l_Y4_read_54 (by omega) (by omega) (by omega) ?_
          simp only [wp_c, st_iload, st_lload, st_aload, st_istore, st_lstore, st_astore, st_iinc, st_sipush, st_jsr_w, st_goto, st_jsr, st_goto_w, st_if_icmp, st_ifCond, st_iadd, st_isub, st_imul, st_idiv, st_irem, st_iand, st_ior, st_ixor, st_ishl, st_ishr, st_iushr, st_ladd, st_lsub, st_lmul, st_ldiv, st_lrem, st_land, st_lor, st_lshl, st_lshr, st_i2l, st_l2i, st_i2b, st_i2s, st_i2c, st_lcmp, st_dup, st_pop, st_dup2, st_pop2, st_getfield, st_getstatic, st_checkcast, st_instanceof, st_putfield, st_putstatic, st_dstore, st_iaload, st_baload, st_laload, st_aaload, st_iastore, st_bastore, st_lastore, st_arraylength, st_dcmpg, st_dcmpl, st_fcmpg, st_fcmpl, st_monitorenter, st_tableswitch, st_multianewarray, st_invokeinterface, st_ireturn, st_lreturn, st_return_, st_ldc, st_ldc_w, st_ldc2_w, st_freturn, st_invokevirtual, st_anewarray0, st_anewarray1, st_anewarray2, st_anewarray3, st_anewarray4, st_anewarray5, st_lookupswitch, popI_c, popL_c, popR_c, popV_c, getI_c, getL_c, getR_c, lg_z, lg_s, ls1_z, ls1_o, ls1_s, ls2_z, ls2_o, ls2_s, noL_i, noL_l, noL_r, isL_i, isL_l, isL_r, tk_z, tk_s, psh_n, psh_s, ent_e, entL_n, entL_c, cc_eq, cc_ne, cc_lt, cc_ge, cc_gt, cc_le, swt_n, swt_c, lsw_n, lsw_c, mPs, NSTR_e, akds, alens, cnts, arfs, inb_e, lcm_lt, lcm_gt, lcm_ge, lcm_le, lcm_eq, lcm_a, lcm_b, Int.reduceToNat, Nat.reduceDiv, Nat.reduceMod, Nat.reduceMul, Nat.reduceAdd, Nat.reduceSub, Nat.reduceLT, Nat.reduceLeDiff, Nat.reduceEqDiff, Int.reduceNeg, Int.reduceAdd, Nat.one_mul, Nat.zero_mul, Nat.add_zero, Nat.zero_add, if_true, if_false, eq_self, true_and, and_true, true_or, or_true, false_or, or_false, List.length_cons, List.length_nil, List.cons_append, List.nil_append, List.replicate_zero, List.replicate_succ, Nat.lt_irrefl, reduceCtorEq, Bool.false_eq_true, in32, in64, Int.reduceLE, Int.reduceLT, Int.reduceEq, Int.reduceNe, not_true_eq_false, not_false_eq_true, true_implies, false_implies, implies_true, false_and, and_false, and_self, sA_goto_w, sA_dcmpg, sA_dcmpl, sA_multianewarray, sA_invokeinterface, sA_invokespecial, sA_new, sA_fload, sA_aconst_null, sA_areturn, sA_ireturn, sA_ifnonnull, sA_faload, sA_caload, pA_iload, pA_aload, pA_istore, pA_iinc, pA_sipush, pA_jsr_w, pA_goto, pA_jsr, pA_if_icmp, pA_ifCond, pA_iadd, pA_isub, pA_iand, pA_land, pA_lor, pA_lshl, pA_i2l, pA_lcmp, pA_getfield, pA_checkcast, pA_instanceof, pA_putfield, pA_putstatic, pA_arraylength, pA_tableswitch, pA_ldc, pA_ldc_w, wpA_c, TA_i, TA_r, isRV_r, nrl_n, nrl_i, nrl_l, nrl_0, nrl_r, rmC_c, rmC_s, mPA, objA, Nat.reduceBEq, Bool.or_false, Bool.or_self, Bool.not_false, Bool.true_and, Bool.false_and, decide_false, Nat.reduceLeDiff, b_Y4_read, r_Y4_read, h_Y4_read_54, h5]
          (repeat' with_reducible first | apply And.intro | intro _)
          all_goals try omega
          refine ⟨(q.1 - s1).toNat, (q.1 - s1).toNat, by omega, by omega, c_readLine gc rc pc oc (fun q' e => ?_) (fun e' e => ?_) (fun σ3 s3 D3 e3 x3 y3 g3 q3 => ?_) (fun σ3 w3 q3 e3 x3 g3 => ?_)⟩
          · rw [hx] at e
            cases e
            omega
          · rw [hx] at e
            cases e
          · rw [hx] at e3
            have e3' : q = (s3, D3) := Sum.inl.inj e3
            subst e3'
            simp only at p5 p6 p7 hh ⊢
            have := ih (c + (s3 - s1).toNat) (s + (s3 - s1).toNat) s3 (i + 1) D3 σ3 (xc.tr x3) (yc.tr y3) g3 q3 p7 (by omega) (by omega) (by omega) (by omega) hh
            simp only [wp_c, st_iload, st_lload, st_aload, st_istore, st_lstore, st_astore, st_iinc, st_sipush, st_jsr_w, st_goto, st_jsr, st_goto_w, st_if_icmp, st_ifCond, st_iadd, st_isub, st_imul, st_idiv, st_irem, st_iand, st_ior, st_ixor, st_ishl, st_ishr, st_iushr, st_ladd, st_lsub, st_lmul, st_ldiv, st_lrem, st_land, st_lor, st_lshl, st_lshr, st_i2l, st_l2i, st_i2b, st_i2s, st_i2c, st_lcmp, st_dup, st_pop, st_dup2, st_pop2, st_getfield, st_getstatic, st_checkcast, st_instanceof, st_putfield, st_putstatic, st_dstore, st_iaload, st_baload, st_laload, st_aaload, st_iastore, st_bastore, st_lastore, st_arraylength, st_dcmpg, st_dcmpl, st_fcmpg, st_fcmpl, st_monitorenter, st_tableswitch, st_multianewarray, st_invokeinterface, st_ireturn, st_lreturn, st_return_, st_ldc, st_ldc_w, st_ldc2_w, st_freturn, st_invokevirtual, st_anewarray0, st_anewarray1, st_anewarray2, st_anewarray3, st_anewarray4, st_anewarray5, st_lookupswitch, popI_c, popL_c, popR_c, popV_c, getI_c, getL_c, getR_c, lg_z, lg_s, ls1_z, ls1_o, ls1_s, ls2_z, ls2_o, ls2_s, noL_i, noL_l, noL_r, isL_i, isL_l, isL_r, tk_z, tk_s, psh_n, psh_s, ent_e, entL_n, entL_c, cc_eq, cc_ne, cc_lt, cc_ge, cc_gt, cc_le, swt_n, swt_c, lsw_n, lsw_c, mPs, NSTR_e, akds, alens, cnts, arfs, inb_e, lcm_lt, lcm_gt, lcm_ge, lcm_le, lcm_eq, lcm_a, lcm_b, Int.reduceToNat, Nat.reduceDiv, Nat.reduceMod, Nat.reduceMul, Nat.reduceAdd, Nat.reduceSub, Nat.reduceLT, Nat.reduceLeDiff, Nat.reduceEqDiff, Int.reduceNeg, Int.reduceAdd, Nat.one_mul, Nat.zero_mul, Nat.add_zero, Nat.zero_add, if_true, if_false, eq_self, true_and, and_true, true_or, or_true, false_or, or_false, List.length_cons, List.length_nil, List.cons_append, List.nil_append, List.replicate_zero, List.replicate_succ, Nat.lt_irrefl, reduceCtorEq, Bool.false_eq_true, in32, in64, Int.reduceLE, Int.reduceLT, Int.reduceEq, Int.reduceNe, not_true_eq_false, not_false_eq_true, true_implies, false_implies, implies_true, false_and, and_false, and_self, sA_goto_w, sA_dcmpg, sA_dcmpl, sA_multianewarray, sA_invokeinterface, sA_invokespecial, sA_new, sA_fload, sA_aconst_null, sA_areturn, sA_ireturn, sA_ifnonnull, sA_faload, sA_caload, pA_iload, pA_aload, pA_istore, pA_iinc, pA_sipush, pA_jsr_w, pA_goto, pA_jsr, pA_if_icmp, pA_ifCond, pA_iadd, pA_isub, pA_iand, pA_land, pA_lor, pA_lshl, pA_i2l, pA_lcmp, pA_getfield, pA_checkcast, pA_instanceof, pA_putfield, pA_putstatic, pA_arraylength, pA_tableswitch, pA_ldc, pA_ldc_w, wpA_c, TA_i, TA_r, isRV_r, nrl_n, nrl_i, nrl_l, nrl_0, nrl_r, rmC_c, rmC_s, mPA, objA, Nat.reduceBEq, Bool.or_false, Bool.or_self, Bool.not_false, Bool.true_and, Bool.false_and, decide_false, Nat.reduceLeDiff, b_Y4_read, r_Y4_read]
            (repeat' with_reducible first | apply And.intro | intro _)
            all_goals try omega
            all_goals exact this
          · rw [hx] at e3
            cases e3
        | inr e =>
          rw [hx] at hh
          have hh : .inr e = L_all T k := hh
          have l1 : s1 < k := by
            rcases Int.lt_or_le s1 k with h | h
            · exact h
            · exact absurd (lxK_25.mpr h) c25
          refine l_Y4_read_54 (by omega) (by omega) (by omega) ?_
          simp only [wp_c, st_iload, st_lload, st_aload, st_istore, st_lstore, st_astore, st_iinc, st_sipush, st_jsr_w, st_goto, st_jsr, st_goto_w, st_if_icmp, st_ifCond, st_iadd, st_isub, st_imul, st_idiv, st_irem, st_iand, st_ior, st_ixor, st_ishl, st_ishr, st_iushr, st_ladd, st_lsub, st_lmul, st_ldiv, st_lrem, st_land, st_lor, st_lshl, st_lshr, st_i2l, st_l2i, st_i2b, st_i2s, st_i2c, st_lcmp, st_dup, st_pop, st_dup2, st_pop2, st_getfield, st_getstatic, st_checkcast, st_instanceof, st_putfield, st_putstatic, st_dstore, st_iaload, st_baload, st_laload, st_aaload, st_iastore, st_bastore, st_lastore, st_arraylength, st_dcmpg, st_dcmpl, st_fcmpg, st_fcmpl, st_monitorenter, st_tableswitch, st_multianewarray, st_invokeinterface, st_ireturn, st_lreturn, st_return_, st_ldc, st_ldc_w, st_ldc2_w, st_freturn, st_invokevirtual, st_anewarray0, st_anewarray1, st_anewarray2, st_anewarray3, st_anewarray4, st_anewarray5, st_lookupswitch, popI_c, popL_c, popR_c, popV_c, getI_c, getL_c, getR_c, lg_z, lg_s, ls1_z, ls1_o, ls1_s, ls2_z, ls2_o, ls2_s, noL_i, noL_l, noL_r, isL_i, isL_l, isL_r, tk_z, tk_s, psh_n, psh_s, ent_e, entL_n, entL_c, cc_eq, cc_ne, cc_lt, cc_ge, cc_gt, cc_le, swt_n, swt_c, lsw_n, lsw_c, mPs, NSTR_e, akds, alens, cnts, arfs, inb_e, lcm_lt, lcm_gt, lcm_ge, lcm_le, lcm_eq, lcm_a, lcm_b, Int.reduceToNat, Nat.reduceDiv, Nat.reduceMod, Nat.reduceMul, Nat.reduceAdd, Nat.reduceSub, Nat.reduceLT, Nat.reduceLeDiff, Nat.reduceEqDiff, Int.reduceNeg, Int.reduceAdd, Nat.one_mul, Nat.zero_mul, Nat.add_zero, Nat.zero_add, if_true, if_false, eq_self, true_and, and_true, true_or, or_true, false_or, or_false, List.length_cons, List.length_nil, List.cons_append, List.nil_append, List.replicate_zero, List.replicate_succ, Nat.lt_irrefl, reduceCtorEq, Bool.false_eq_true, in32, in64, Int.reduceLE, Int.reduceLT, Int.reduceEq, Int.reduceNe, not_true_eq_false, not_false_eq_true, true_implies, false_implies, implies_true, false_and, and_false, and_self, sA_goto_w, sA_dcmpg, sA_dcmpl, sA_multianewarray, sA_invokeinterface, sA_invokespecial, sA_new, sA_fload, sA_aconst_null, sA_areturn, sA_ireturn, sA_ifnonnull, sA_faload, sA_caload, pA_iload, pA_aload, pA_istore, pA_iinc, pA_sipush, pA_jsr_w, pA_goto, pA_jsr, pA_if_icmp, pA_ifCond, pA_iadd, pA_isub, pA_iand, pA_land, pA_lor, pA_lshl, pA_i2l, pA_lcmp, pA_getfield, pA_checkcast, pA_instanceof, pA_putfield, pA_putstatic, pA_arraylength, pA_tableswitch, pA_ldc, pA_ldc_w, wpA_c, TA_i, TA_r, isRV_r, nrl_n, nrl_i, nrl_l, nrl_0, nrl_r, rmC_c, rmC_s, mPA, objA, Nat.reduceBEq, Bool.or_false, Bool.or_self, Bool.not_false, Bool.true_and, Bool.false_and, decide_false, Nat.reduceLeDiff, b_Y4_read, r_Y4_read, h_Y4_read_54, h5]
          (repeat' with_reducible first | apply And.intro | intro _)
          all_goals try omega
          refine ⟨(k - s1).toNat, (k - s1).toNat, by omega, by omega, c_readLine gc rc pc oc (fun q' e => ?_) (fun e' e => ?_) (fun σ3 s3 D3 e3 x3 y3 g3 q3 => ?_) (fun σ3 w3 q3 e3 x3 g3 => ?_)⟩
          · rw [hx] at e
            cases e
          · omega
          · rw [hx] at e3
            cases e3
          · rw [hx] at e3
            have e3' : e = (w3, q3) := Sum.inr.inj e3
            subst e3'
            have := EX (c + (k - s1).toNat) (s + (k - s1).toNat) (i + 1) σ3 w3 q3 (by omega) (by omega) (by omega) hh.symm (xc.tr x3) g3
            simp only [wp_c, st_iload, st_lload, st_aload, st_istore, st_lstore, st_astore, st_iinc, st_sipush, st_jsr_w, st_goto, st_jsr, st_goto_w, st_if_icmp, st_ifCond, st_iadd, st_isub, st_imul, st_idiv, st_irem, st_iand, st_ior, st_ixor, st_ishl, st_ishr, st_iushr, st_ladd, st_lsub, st_lmul, st_ldiv, st_lrem, st_land, st_lor, st_lshl, st_lshr, st_i2l, st_l2i, st_i2b, st_i2s, st_i2c, st_lcmp, st_dup, st_pop, st_dup2, st_pop2, st_getfield, st_getstatic, st_checkcast, st_instanceof, st_putfield, st_putstatic, st_dstore, st_iaload, st_baload, st_laload, st_aaload, st_iastore, st_bastore, st_lastore, st_arraylength, st_dcmpg, st_dcmpl, st_fcmpg, st_fcmpl, st_monitorenter, st_tableswitch, st_multianewarray, st_invokeinterface, st_ireturn, st_lreturn, st_return_, st_ldc, st_ldc_w, st_ldc2_w, st_freturn, st_invokevirtual, st_anewarray0, st_anewarray1, st_anewarray2, st_anewarray3, st_anewarray4, st_anewarray5, st_lookupswitch, popI_c, popL_c, popR_c, popV_c, getI_c, getL_c, getR_c, lg_z, lg_s, ls1_z, ls1_o, ls1_s, ls2_z, ls2_o, ls2_s, noL_i, noL_l, noL_r, isL_i, isL_l, isL_r, tk_z, tk_s, psh_n, psh_s, ent_e, entL_n, entL_c, cc_eq, cc_ne, cc_lt, cc_ge, cc_gt, cc_le, swt_n, swt_c, lsw_n, lsw_c, mPs, NSTR_e, akds, alens, cnts, arfs, inb_e, lcm_lt, lcm_gt, lcm_ge, lcm_le, lcm_eq, lcm_a, lcm_b, Int.reduceToNat, Nat.reduceDiv, Nat.reduceMod, Nat.reduceMul, Nat.reduceAdd, Nat.reduceSub, Nat.reduceLT, Nat.reduceLeDiff, Nat.reduceEqDiff, Int.reduceNeg, Int.reduceAdd, Nat.one_mul, Nat.zero_mul, Nat.add_zero, Nat.zero_add, if_true, if_false, eq_self, true_and, and_true, true_or, or_true, false_or, or_false, List.length_cons, List.length_nil, List.cons_append, List.nil_append, List.replicate_zero, List.replicate_succ, Nat.lt_irrefl, reduceCtorEq, Bool.false_eq_true, in32, in64, Int.reduceLE, Int.reduceLT, Int.reduceEq, Int.reduceNe, not_true_eq_false, not_false_eq_true, true_implies, false_implies, implies_true, false_and, and_false, and_self, sA_goto_w, sA_dcmpg, sA_dcmpl, sA_multianewarray, sA_invokeinterface, sA_invokespecial, sA_new, sA_fload, sA_aconst_null, sA_areturn, sA_ireturn, sA_ifnonnull, sA_faload, sA_caload, pA_iload, pA_aload, pA_istore, pA_iinc, pA_sipush, pA_jsr_w, pA_goto, pA_jsr, pA_if_icmp, pA_ifCond, pA_iadd, pA_isub, pA_iand, pA_land, pA_lor, pA_lshl, pA_i2l, pA_lcmp, pA_getfield, pA_checkcast, pA_instanceof, pA_putfield, pA_putstatic, pA_arraylength, pA_tableswitch, pA_ldc, pA_ldc_w, wpA_c, TA_i, TA_r, isRV_r, nrl_n, nrl_i, nrl_l, nrl_0, nrl_r, rmC_c, rmC_s, mPA, objA, Nat.reduceBEq, Bool.or_false, Bool.or_self, Bool.not_false, Bool.true_and, Bool.false_and, decide_false, Nat.reduceLeDiff, b_Y4_read, r_Y4_read]
            (repeat' with_reducible first | apply And.intro | intro _)
            all_goals try omega
            all_goals exact this
  simp only [wp_c, st_iload, st_lload, st_aload, st_istore, st_lstore, st_astore, st_iinc, st_sipush, st_jsr_w, st_goto, st_jsr, st_goto_w, st_if_icmp, st_ifCond, st_iadd, st_isub, st_imul, st_idiv, st_irem, st_iand, st_ior, st_ixor, st_ishl, st_ishr, st_iushr, st_ladd, st_lsub, st_lmul, st_ldiv, st_lrem, st_land, st_lor, st_lshl, st_lshr, st_i2l, st_l2i, st_i2b, st_i2s, st_i2c, st_lcmp, st_dup, st_pop, st_dup2, st_pop2, st_getfield, st_getstatic, st_checkcast, st_instanceof, st_putfield, st_putstatic, st_dstore, st_iaload, st_baload, st_laload, st_aaload, st_iastore, st_bastore, st_lastore, st_arraylength, st_dcmpg, st_dcmpl, st_fcmpg, st_fcmpl, st_monitorenter, st_tableswitch, st_multianewarray, st_invokeinterface, st_ireturn, st_lreturn, st_return_, st_ldc, st_ldc_w, st_ldc2_w, st_freturn, st_invokevirtual, st_anewarray0, st_anewarray1, st_anewarray2, st_anewarray3, st_anewarray4, st_anewarray5, st_lookupswitch, popI_c, popL_c, popR_c, popV_c, getI_c, getL_c, getR_c, lg_z, lg_s, ls1_z, ls1_o, ls1_s, ls2_z, ls2_o, ls2_s, noL_i, noL_l, noL_r, isL_i, isL_l, isL_r, tk_z, tk_s, psh_n, psh_s, ent_e, entL_n, entL_c, cc_eq, cc_ne, cc_lt, cc_ge, cc_gt, cc_le, swt_n, swt_c, lsw_n, lsw_c, mPs, NSTR_e, akds, alens, cnts, arfs, inb_e, lcm_lt, lcm_gt, lcm_ge, lcm_le, lcm_eq, lcm_a, lcm_b, Int.reduceToNat, Nat.reduceDiv, Nat.reduceMod, Nat.reduceMul, Nat.reduceAdd, Nat.reduceSub, Nat.reduceLT, Nat.reduceLeDiff, Nat.reduceEqDiff, Int.reduceNeg, Int.reduceAdd, Nat.one_mul, Nat.zero_mul, Nat.add_zero, Nat.zero_add, if_true, if_false, eq_self, true_and, and_true, true_or, or_true, false_or, or_false, List.length_cons, List.length_nil, List.cons_append, List.nil_append, List.replicate_zero, List.replicate_succ, Nat.lt_irrefl, reduceCtorEq, Bool.false_eq_true, in32, in64, Int.reduceLE, Int.reduceLT, Int.reduceEq, Int.reduceNe, not_true_eq_false, not_false_eq_true, true_implies, false_implies, implies_true, false_and, and_false, and_self, sA_goto_w, sA_dcmpg, sA_dcmpl, sA_multianewarray, sA_invokeinterface, sA_invokespecial, sA_new, sA_fload, sA_aconst_null, sA_areturn, sA_ireturn, sA_ifnonnull, sA_faload, sA_caload, pA_iload, pA_aload, pA_istore, pA_iinc, pA_sipush, pA_jsr_w, pA_goto, pA_jsr, pA_if_icmp, pA_ifCond, pA_iadd, pA_isub, pA_iand, pA_land, pA_lor, pA_lshl, pA_i2l, pA_lcmp, pA_getfield, pA_checkcast, pA_instanceof, pA_putfield, pA_putstatic, pA_arraylength, pA_tableswitch, pA_ldc, pA_ldc_w, wpA_c, TA_i, TA_r, isRV_r, nrl_n, nrl_i, nrl_l, nrl_0, nrl_r, rmC_c, rmC_s, mPA, objA, Nat.reduceBEq, Bool.or_false, Bool.or_self, Bool.not_false, Bool.true_and, Bool.false_and, decide_false, Nat.reduceLeDiff, b_Y4_read, r_Y4_read]
  (repeat' with_reducible first | apply And.intro | intro _)
  all_goals try omega
  refine c_readPlanks o2 r2 p2 (fun σ3 s3 D3 e3 x3 y3 g3 q3 => ?_) (fun σ3 w3 q3 e3 x3 g3 => ?_)
  · obtain ⟨t1, t2, t3⟩ := L_first_ok hk.1 e3
    have := LN 1000 6 60 s3 0 D3 σ3 (l2.tr x3) (x2.sm.tr y3) g3 q3 t3 (by simp only at t1; omega) (by simp only at t1; omega) (by simp only at t1; omega) (by simp only at t1; omega) (by unfold L_all; rw [e3])
    simp only [wp_c, st_iload, st_lload, st_aload, st_istore, st_lstore, st_astore, st_iinc, st_sipush, st_jsr_w, st_goto, st_jsr, st_goto_w, st_if_icmp, st_ifCond, st_iadd, st_isub, st_imul, st_idiv, st_irem, st_iand, st_ior, st_ixor, st_ishl, st_ishr, st_iushr, st_ladd, st_lsub, st_lmul, st_ldiv, st_lrem, st_land, st_lor, st_lshl, st_lshr, st_i2l, st_l2i, st_i2b, st_i2s, st_i2c, st_lcmp, st_dup, st_pop, st_dup2, st_pop2, st_getfield, st_getstatic, st_checkcast, st_instanceof, st_putfield, st_putstatic, st_dstore, st_iaload, st_baload, st_laload, st_aaload, st_iastore, st_bastore, st_lastore, st_arraylength, st_dcmpg, st_dcmpl, st_fcmpg, st_fcmpl, st_monitorenter, st_tableswitch, st_multianewarray, st_invokeinterface, st_ireturn, st_lreturn, st_return_, st_ldc, st_ldc_w, st_ldc2_w, st_freturn, st_invokevirtual, st_anewarray0, st_anewarray1, st_anewarray2, st_anewarray3, st_anewarray4, st_anewarray5, st_lookupswitch, popI_c, popL_c, popR_c, popV_c, getI_c, getL_c, getR_c, lg_z, lg_s, ls1_z, ls1_o, ls1_s, ls2_z, ls2_o, ls2_s, noL_i, noL_l, noL_r, isL_i, isL_l, isL_r, tk_z, tk_s, psh_n, psh_s, ent_e, entL_n, entL_c, cc_eq, cc_ne, cc_lt, cc_ge, cc_gt, cc_le, swt_n, swt_c, lsw_n, lsw_c, mPs, NSTR_e, akds, alens, cnts, arfs, inb_e, lcm_lt, lcm_gt, lcm_ge, lcm_le, lcm_eq, lcm_a, lcm_b, Int.reduceToNat, Nat.reduceDiv, Nat.reduceMod, Nat.reduceMul, Nat.reduceAdd, Nat.reduceSub, Nat.reduceLT, Nat.reduceLeDiff, Nat.reduceEqDiff, Int.reduceNeg, Int.reduceAdd, Nat.one_mul, Nat.zero_mul, Nat.add_zero, Nat.zero_add, if_true, if_false, eq_self, true_and, and_true, true_or, or_true, false_or, or_false, List.length_cons, List.length_nil, List.cons_append, List.nil_append, List.replicate_zero, List.replicate_succ, Nat.lt_irrefl, reduceCtorEq, Bool.false_eq_true, in32, in64, Int.reduceLE, Int.reduceLT, Int.reduceEq, Int.reduceNe, not_true_eq_false, not_false_eq_true, true_implies, false_implies, implies_true, false_and, and_false, and_self, sA_goto_w, sA_dcmpg, sA_dcmpl, sA_multianewarray, sA_invokeinterface, sA_invokespecial, sA_new, sA_fload, sA_aconst_null, sA_areturn, sA_ireturn, sA_ifnonnull, sA_faload, sA_caload, pA_iload, pA_aload, pA_istore, pA_iinc, pA_sipush, pA_jsr_w, pA_goto, pA_jsr, pA_if_icmp, pA_ifCond, pA_iadd, pA_isub, pA_iand, pA_land, pA_lor, pA_lshl, pA_i2l, pA_lcmp, pA_getfield, pA_checkcast, pA_instanceof, pA_putfield, pA_putstatic, pA_arraylength, pA_tableswitch, pA_ldc, pA_ldc_w, wpA_c, TA_i, TA_r, isRV_r, nrl_n, nrl_i, nrl_l, nrl_0, nrl_r, rmC_c, rmC_s, mPA, objA, Nat.reduceBEq, Bool.or_false, Bool.or_self, Bool.not_false, Bool.true_and, Bool.false_and, decide_false, Nat.reduceLeDiff, b_Y4_read, r_Y4_read]
    (repeat' with_reducible first | apply And.intro | intro _)
    all_goals try omega
    all_goals exact this
  · have := EX 6 60 0 σ3 w3 q3 (by decide) (by decide) (by decide) (by unfold L_all; rw [e3]) (l2.tr x3) g3
    simp only [wp_c, st_iload, st_lload, st_aload, st_istore, st_lstore, st_astore, st_iinc, st_sipush, st_jsr_w, st_goto, st_jsr, st_goto_w, st_if_icmp, st_ifCond, st_iadd, st_isub, st_imul, st_idiv, st_irem, st_iand, st_ior, st_ixor, st_ishl, st_ishr, st_iushr, st_ladd, st_lsub, st_lmul, st_ldiv, st_lrem, st_land, st_lor, st_lshl, st_lshr, st_i2l, st_l2i, st_i2b, st_i2s, st_i2c, st_lcmp, st_dup, st_pop, st_dup2, st_pop2, st_getfield, st_getstatic, st_checkcast, st_instanceof, st_putfield, st_putstatic, st_dstore, st_iaload, st_baload, st_laload, st_aaload, st_iastore, st_bastore, st_lastore, st_arraylength, st_dcmpg, st_dcmpl, st_fcmpg, st_fcmpl, st_monitorenter, st_tableswitch, st_multianewarray, st_invokeinterface, st_ireturn, st_lreturn, st_return_, st_ldc, st_ldc_w, st_ldc2_w, st_freturn, st_invokevirtual, st_anewarray0, st_anewarray1, st_anewarray2, st_anewarray3, st_anewarray4, st_anewarray5, st_lookupswitch, popI_c, popL_c, popR_c, popV_c, getI_c, getL_c, getR_c, lg_z, lg_s, ls1_z, ls1_o, ls1_s, ls2_z, ls2_o, ls2_s, noL_i, noL_l, noL_r, isL_i, isL_l, isL_r, tk_z, tk_s, psh_n, psh_s, ent_e, entL_n, entL_c, cc_eq, cc_ne, cc_lt, cc_ge, cc_gt, cc_le, swt_n, swt_c, lsw_n, lsw_c, mPs, NSTR_e, akds, alens, cnts, arfs, inb_e, lcm_lt, lcm_gt, lcm_ge, lcm_le, lcm_eq, lcm_a, lcm_b, Int.reduceToNat, Nat.reduceDiv, Nat.reduceMod, Nat.reduceMul, Nat.reduceAdd, Nat.reduceSub, Nat.reduceLT, Nat.reduceLeDiff, Nat.reduceEqDiff, Int.reduceNeg, Int.reduceAdd, Nat.one_mul, Nat.zero_mul, Nat.add_zero, Nat.zero_add, if_true, if_false, eq_self, true_and, and_true, true_or, or_true, false_or, or_false, List.length_cons, List.length_nil, List.cons_append, List.nil_append, List.replicate_zero, List.replicate_succ, Nat.lt_irrefl, reduceCtorEq, Bool.false_eq_true, in32, in64, Int.reduceLE, Int.reduceLT, Int.reduceEq, Int.reduceNe, not_true_eq_false, not_false_eq_true, true_implies, false_implies, implies_true, false_and, and_false, and_self, sA_goto_w, sA_dcmpg, sA_dcmpl, sA_multianewarray, sA_invokeinterface, sA_invokespecial, sA_new, sA_fload, sA_aconst_null, sA_areturn, sA_ireturn, sA_ifnonnull, sA_faload, sA_caload, pA_iload, pA_aload, pA_istore, pA_iinc, pA_sipush, pA_jsr_w, pA_goto, pA_jsr, pA_if_icmp, pA_ifCond, pA_iadd, pA_isub, pA_iand, pA_land, pA_lor, pA_lshl, pA_i2l, pA_lcmp, pA_getfield, pA_checkcast, pA_instanceof, pA_putfield, pA_putstatic, pA_arraylength, pA_tableswitch, pA_ldc, pA_ldc_w, wpA_c, TA_i, TA_r, isRV_r, nrl_n, nrl_i, nrl_l, nrl_0, nrl_r, rmC_c, rmC_s, mPA, objA, Nat.reduceBEq, Bool.or_false, Bool.or_self, Bool.not_false, Bool.true_and, Bool.false_and, decide_false, Nat.reduceLeDiff, b_Y4_read, r_Y4_read]
    (repeat' with_reducible first | apply And.intro | intro _)
    all_goals try omega
    all_goals exact this
end CREAD3
