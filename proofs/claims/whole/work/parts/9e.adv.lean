/-! 9e: the class's next token -/
def cxK (T : Int → Int) (L s : Int) : Int := if L ≤ s then 0 else if sml T L s = true then 1 else if dgt T L s = true then (if lxD T L s - s ≤ 3 then 2 else 4) else if sgnK (T s) = 26 then 4 else 3
def cxE (T : Int → Int) (L s : Int) : Int := if L ≤ s then s else if sml T L s = true then lxW T L s else if dgt T L s = true then lxD T L s else if sgnK (T s) = 26 then s else s + 1
def cfr (σ σ' : Mem) : Prop := eqx [4] σ σ' ∧ ∀ k : Nat, ¬ (k = 3 ∨ k = 4 ∨ k = 5 ∨ k = 6) → σ' 4 0 k = σ 4 0 k
theorem cfr.rf {σ : Mem} : cfr σ σ := ⟨eqx.rf, fun _ _ => rfl⟩
theorem cfr.tr {σ σ1 σ2 : Mem} (h : cfr σ σ1) (h2 : cfr σ1 σ2) : cfr σ σ2 := ⟨h.1.tr h2.1, fun k hk => (h2.2 k hk).trans (h.2 k hk)⟩
theorem cfr.mu {σ σ1 : Mem} {k : Nat} {v : Int} (h : cfr σ σ1) (hk : k = 3 ∨ k = 4 ∨ k = 5 ∨ k = 6) : cfr σ (mu σ1 4 0 k v) := ⟨eqx_mu h.1 (by decide), fun j hj => by
  rw [mu_at, if_neg (fun x => hj (by rw [x]; exact hk))]
  exact h.2 j hj⟩
theorem sgn_d : ∀ c : Fin 256, (sgnK (c.val : Int) = 26 ∧ ∀ r : Fin 12, ¬ (sby 0).getD r.val 0 = (c.val : Int)) ∨ (¬ sgnK (c.val : Int) = 26 ∧ ∃ r : Fin 12, (sby 0).getD r.val 0 = (c.val : Int) ∧ sgnK (c.val : Int) = 30 + (r.val : Int)) := by decide +kernel
theorem sgn_s {c : Int} (hc : 0 ≤ c ∧ c < 256) : (sgnK c = 26 ∧ ∀ r : Int, 0 ≤ r → r < 12 → ¬ (sby 0).getD r.toNat 0 = c) ∨ (¬ sgnK c = 26 ∧ ∃ r : Int, 0 ≤ r ∧ r < 12 ∧ (sby 0).getD r.toNat 0 = c ∧ sgnK c = 30 + r) := by
  have h := sgn_d ⟨c.toNat, by omega⟩
  have e : ((c.toNat : Nat) : Int) = c := by omega
  simp only [e] at h
  rcases h with ⟨h1, h2⟩ | ⟨h1, r, h2, h3⟩
  · exact Or.inl ⟨h1, fun r a b => h2 ⟨r.toNat, by omega⟩⟩
  · exact Or.inr ⟨h1, (r.val : Int), by omega, by omega, by rw [Int.toNat_natCast]; exact h2, h3⟩
section ADV
variable {d : Nat} {σ : Mem} {K : Option AV → Mem → Prop} {L : Int} {T : Int → Int}
set_option maxRecDepth 4000 in
theorem c_advance {p : Int} (hp : 0 ≤ p ∧ p ≤ L) (h4 : σ 4 0 4 = p) (hL : σ 4 0 2 = L) (hL2 : L ≤ 900) (hT : ∀ i : Int, 0 ≤ i → i < L → σ 40 0 i.toNat = (T i).bmod 256) (hT2 : ∀ i : Int, 0 ≤ i → i < L → 0 ≤ T i ∧ T i < 256) (hK : ∀ σ', cfr σ σ' → σ' 4 0 3 = lxS T L p → σ' 4 0 4 = cxE T L (lxS T L p) → σ' 4 0 5 = cxK T L (lxS T L p) → (cxK T L (lxS T L p) = 2 → σ' 4 0 6 = nmv T (mn3 (lxD T L (lxS T L p) - lxS T L p)) (lxS T L p) 0) → K none σ') : Ev (d + 5) 25 [.inr (.inr (some (4, 0)))] σ K := by
  have F : ∀ σc : Mem, cfr σ σc → σc 4 0 2 = L ∧ ∀ i : Int, 0 ≤ i → i < L → (σc 40 0 i.toNat = T i ∧ T i < 128) ∨ (σc 40 0 i.toNat = T i - 256 ∧ 128 ≤ T i) := fun σc h => ⟨(h.2 2 (by omega)).trans hL, fun i a b => by
    rw [h.1 40 (by decide), hT i a b, bm256 (hT2 i a b)]
    split <;> omega⟩
  generalize hs : lxS T L p = s at hK
  have sb : p ≤ s ∧ s ≤ L := by
    have := whl_b (c := wht T L) (L - p).toNat p
    rw [show whl (wht T L) (L - p).toNat p = s from hs] at this
    omega
  -- digits and signs
  have H3 : ∀ (n : Nat) (q v : Int) (σc : Mem), s ≤ q → q + n = L → s < L → ¬ sml T L s = true → (q = s ∨ dgt T L s = true) → whl (dgt T L) n q = lxD T L s → (0 ≤ v ∧ v ≤ 9999) → (q - s ≤ 3 → v = nmv T (mn3 (q - s)) s 0 ∧ v ≤ (if q - s = 0 then 0 else if q - s = 1 then 9 else if q - s = 2 then 99 else 999)) → cfr σ σc → σc 4 0 3 = s → σc 4 0 4 = q → σc 4 0 5 = 4 → σc 4 0 6 = v → Rn (d + 5) 25 151 [.inr (.inr (some (4, 0)))] [] σc K := by
    have fin : ∀ (q v : Int) (σc : Mem), s < q → s < L → ¬ sml T L s = true → dgt T L s = true → q = lxD T L s → (q - s ≤ 3 → v = nmv T (mn3 (q - s)) s 0) → cfr σ σc → σc 4 0 3 = s → σc 4 0 4 = q → σc 4 0 6 = v → ∀ k : Int, k = (if q - s ≤ 3 then 2 else 4) → K none (mu σc 4 0 5 k) := by
      intro q v σc c0 c1 c2 c3 hh hv xc g3 g4 g6 k hk
      refine hK _ (xc.mu (by omega)) ?_ ?_ ?_ (fun e2 => ?_)
      · rw [mu_at, if_neg (by decide)]; exact g3
      · rw [mu_at, if_neg (by decide)]; unfold cxE; rw [if_neg (by omega), if_neg c2, if_pos c3, ← hh]; exact g4
      · rw [mu_at, if_pos rfl]; unfold cxK; rw [if_neg (by omega), if_neg c2, if_pos c3, ← hh]; exact hk
      · unfold cxK at e2
        rw [if_neg (by omega), if_neg c2, if_pos c3, ← hh] at e2
        rw [mu_at, if_neg (by decide), ← hh, g6]
        refine hv ?_
        split at e2
        · assumption
        · omega
    have sg : ∀ σc : Mem, s < L → ¬ sml T L s = true → ¬ dgt T L s = true → cfr σ σc → σc 4 0 3 = s → σc 4 0 4 = s → σc 4 0 5 = 4 → ((sgnK (T s) = 26 → K none σc) ∧ (¬ sgnK (T s) = 26 → K none (mu (mu σc 4 0 5 3) 4 0 4 (s + 1)))) := by
      intro σc c1 c2 c3 xc g3 g4 g5
      constructor
      · intro e
        refine hK _ xc g3 ?_ ?_ (fun e2 => ?_)
        · unfold cxE; rw [if_neg (by omega), if_neg c2, if_neg c3, if_pos e]; exact g4
        · unfold cxK; rw [if_neg (by omega), if_neg c2, if_neg c3, if_pos e]; exact g5
        · unfold cxK at e2
          rw [if_neg (by omega), if_neg c2, if_neg c3, if_pos e] at e2
          omega
      · intro e
        refine hK _ ((xc.mu (by omega)).mu (by omega)) ?_ ?_ ?_ (fun e2 => ?_)
        · rw [mu_at, if_neg (by decide), mu_at, if_neg (by decide)]; exact g3
        · rw [mu_at, if_pos rfl]; unfold cxE; rw [if_neg (by omega), if_neg c2, if_neg c3, if_neg e]
        · rw [mu_at, if_neg (by decide), mu_at, if_pos rfl]; unfold cxK; rw [if_neg (by omega), if_neg c2, if_neg c3, if_neg e]
        · unfold cxK at e2
          rw [if_neg (by omega), if_neg c2, if_neg c3, if_neg e] at e2
          omega
    intro n
    induction n with
    | zero =>
      intro q v σc a1 a2 c1 c2 c3 hh hb hv xc g3 g4 g5 g6
      have hh : q = _ := hh
      obtain ⟨f2, f40⟩ := F σc xc
      have fn := fin q v σc (by omega) c1 c2 (c3.resolve_left (by omega)) hh (fun x => (hv x).1) xc g3 g4 g6
      refine l_X4_advance_151 ?_
      simp only [wp_c, st_iload, st_lload, st_aload, st_istore, st_lstore, st_astore, st_iinc, st_sipush, st_jsr_w, st_goto, st_jsr, st_goto_w, st_if_icmp, st_ifCond, st_iadd, st_isub, st_imul, st_idiv, st_irem, st_iand, st_ior, st_ixor, st_ishl, st_ishr, st_iushr, st_ladd, st_lsub, st_lmul, st_ldiv, st_lrem, st_land, st_lor, st_lshl, st_lshr, st_i2l, st_l2i, st_i2b, st_i2s, st_i2c, st_lcmp, st_dup, st_pop, st_dup2, st_pop2, st_getfield, st_getstatic, st_checkcast, st_instanceof, st_putfield, st_putstatic, st_dstore, st_iaload, st_baload, st_laload, st_aaload, st_iastore, st_bastore, st_lastore, st_arraylength, st_dcmpg, st_dcmpl, st_fcmpg, st_fcmpl, st_monitorenter, st_tableswitch, st_multianewarray, st_invokeinterface, st_ireturn, st_lreturn, st_return_, st_ldc, st_ldc_w, st_ldc2_w, st_freturn, st_invokevirtual, st_anewarray0, st_anewarray1, st_anewarray2, st_anewarray3, st_anewarray4, st_anewarray5, st_lookupswitch, popI_c, popL_c, popR_c, popV_c, getI_c, getL_c, getR_c, lg_z, lg_s, ls1_z, ls1_o, ls1_s, ls2_z, ls2_o, ls2_s, noL_i, noL_l, noL_r, isL_i, isL_l, isL_r, tk_z, tk_s, psh_n, psh_s, ent_e, entL_n, entL_c, cc_eq, cc_ne, cc_lt, cc_ge, cc_gt, cc_le, swt_n, swt_c, lsw_n, lsw_c, mPs, NSTR_e, akds, alens, cnts, arfs, inb_e, lcm_lt, lcm_gt, lcm_ge, lcm_le, lcm_eq, lcm_a, lcm_b, Int.reduceToNat, Nat.reduceDiv, Nat.reduceMod, Nat.reduceMul, Nat.reduceAdd, Nat.reduceSub, Nat.reduceLT, Nat.reduceLeDiff, Nat.reduceEqDiff, Int.reduceNeg, Int.reduceAdd, Nat.one_mul, Nat.zero_mul, Nat.add_zero, Nat.zero_add, if_true, if_false, eq_self, true_and, and_true, true_or, or_true, false_or, or_false, List.length_cons, List.length_nil, List.cons_append, List.nil_append, List.replicate_zero, List.replicate_succ, Nat.lt_irrefl, reduceCtorEq, Bool.false_eq_true, in32, in64, Int.reduceLE, Int.reduceLT, Int.reduceEq, Int.reduceNe, not_true_eq_false, not_false_eq_true, true_implies, false_implies, implies_true, false_and, and_false, and_self, b_X4_advance, r_X4_advance, h_X4_advance_151, g4, f2, g3]
      (repeat' with_reducible first | apply And.intro | intro _)
      all_goals try omega
      · exact fn _ (by rw [if_pos (by omega)])
      · exact fn _ (by rw [if_neg (by omega)])
    | succ n ih =>
      intro q v σc a1 a2 c1 c2 c3 hh hb hv xc g3 g4 g5 g6
      obtain ⟨f2, f40⟩ := F σc xc
      have tb := hT2 q (by omega) (by omega)
      have tr := f40 q (by omega) (by omega)
      by_cases c : dgt T L q = true
      · have cc := (of_decide_eq_true c).2
        rw [whl_t c] at hh
        have tq : σc 40 0 q.toNat = T q := by omega
        have rm : v.tmod 1000 = v % 1000 := Int.tmod_eq_emod_of_nonneg hb.1
        have ds : dgt T L s = true := by
          rcases c3 with h | h
          · rw [← h]; exact c
          · exact h
        have m4 : mu σc 4 0 6 (v % 1000 * 10 + T q - 48) 4 0 4 = q := by rw [mu_at, if_neg (by decide)]; exact g4
        have := ih (q + 1) (v % 1000 * 10 + T q - 48) (mu (mu σc 4 0 6 (v % 1000 * 10 + T q - 48)) 4 0 4 (q + 1)) (by omega) (by omega) c1 c2 (Or.inr ds) hh ⟨by omega, by omega⟩ (fun x => ?_) ((xc.mu (by omega)).mu (by omega)) (by rw [mu_at, if_neg (by decide), mu_at, if_neg (by decide)]; exact g3) (by rw [mu_at, if_pos rfl]) (by rw [mu_at, if_neg (by decide), mu_at, if_neg (by decide)]; exact g5) (by rw [mu_at, if_neg (by decide), mu_at, if_pos rfl])
        · refine l_X4_advance_151 ?_
          simp only [wp_c, st_iload, st_lload, st_aload, st_istore, st_lstore, st_astore, st_iinc, st_sipush, st_jsr_w, st_goto, st_jsr, st_goto_w, st_if_icmp, st_ifCond, st_iadd, st_isub, st_imul, st_idiv, st_irem, st_iand, st_ior, st_ixor, st_ishl, st_ishr, st_iushr, st_ladd, st_lsub, st_lmul, st_ldiv, st_lrem, st_land, st_lor, st_lshl, st_lshr, st_i2l, st_l2i, st_i2b, st_i2s, st_i2c, st_lcmp, st_dup, st_pop, st_dup2, st_pop2, st_getfield, st_getstatic, st_checkcast, st_instanceof, st_putfield, st_putstatic, st_dstore, st_iaload, st_baload, st_laload, st_aaload, st_iastore, st_bastore, st_lastore, st_arraylength, st_dcmpg, st_dcmpl, st_fcmpg, st_fcmpl, st_monitorenter, st_tableswitch, st_multianewarray, st_invokeinterface, st_ireturn, st_lreturn, st_return_, st_ldc, st_ldc_w, st_ldc2_w, st_freturn, st_invokevirtual, st_anewarray0, st_anewarray1, st_anewarray2, st_anewarray3, st_anewarray4, st_anewarray5, st_lookupswitch, popI_c, popL_c, popR_c, popV_c, getI_c, getL_c, getR_c, lg_z, lg_s, ls1_z, ls1_o, ls1_s, ls2_z, ls2_o, ls2_s, noL_i, noL_l, noL_r, isL_i, isL_l, isL_r, tk_z, tk_s, psh_n, psh_s, ent_e, entL_n, entL_c, cc_eq, cc_ne, cc_lt, cc_ge, cc_gt, cc_le, swt_n, swt_c, lsw_n, lsw_c, mPs, NSTR_e, akds, alens, cnts, arfs, inb_e, lcm_lt, lcm_gt, lcm_ge, lcm_le, lcm_eq, lcm_a, lcm_b, Int.reduceToNat, Nat.reduceDiv, Nat.reduceMod, Nat.reduceMul, Nat.reduceAdd, Nat.reduceSub, Nat.reduceLT, Nat.reduceLeDiff, Nat.reduceEqDiff, Int.reduceNeg, Int.reduceAdd, Nat.one_mul, Nat.zero_mul, Nat.add_zero, Nat.zero_add, if_true, if_false, eq_self, true_and, and_true, true_or, or_true, false_or, or_false, List.length_cons, List.length_nil, List.cons_append, List.nil_append, List.replicate_zero, List.replicate_succ, Nat.lt_irrefl, reduceCtorEq, Bool.false_eq_true, in32, in64, Int.reduceLE, Int.reduceLT, Int.reduceEq, Int.reduceNe, not_true_eq_false, not_false_eq_true, true_implies, false_implies, implies_true, false_and, and_false, and_self, b_X4_advance, r_X4_advance, h_X4_advance_151, g4, f2, g6, tq, rm, m4]
          (repeat' with_reducible first | apply And.intro | intro _)
          all_goals try omega
          all_goals exact this
        · obtain ⟨hv1, hv2⟩ := hv (by omega)
          have em : mn3 (q + 1 - s) = mn3 (q - s) + 1 := by
            unfold mn3
            rw [if_pos (by omega), if_pos (by omega)]
            omega
          have emn : (mn3 (q - s) : Int) = q - s := by
            unfold mn3
            rw [if_pos (by omega)]
            omega
          have v999 : v ≤ 99 := by (repeat' split at hv2) <;> omega
          have e1 : v % 1000 = v := by omega
          refine ⟨?_, ?_⟩
          · rw [em, nmv_s, ← hv1, emn, show s + (q - s) = q by omega, e1]
            omega
          · rw [e1]
            (repeat' split at hv2) <;> (repeat' split) <;> omega
      · rw [whl_f c] at hh
        have nd : ¬ (48 ≤ T q ∧ T q ≤ 57) := fun x => c (decide_eq_true ⟨by omega, x⟩)
        by_cases c0 : q = s
        · subst c0
          obtain ⟨s1, s2⟩ := sg σc c1 c2 c xc g3 g4 g5
          have i255 : iand (σc 40 0 q.toNat) 255 = T q := by rw [iand_255 ⟨by omega, by omega⟩]; omega
          have ic := i2c_s tb
          refine l_X4_advance_151 ?_
          simp only [wp_c, st_iload, st_lload, st_aload, st_istore, st_lstore, st_astore, st_iinc, st_sipush, st_jsr_w, st_goto, st_jsr, st_goto_w, st_if_icmp, st_ifCond, st_iadd, st_isub, st_imul, st_idiv, st_irem, st_iand, st_ior, st_ixor, st_ishl, st_ishr, st_iushr, st_ladd, st_lsub, st_lmul, st_ldiv, st_lrem, st_land, st_lor, st_lshl, st_lshr, st_i2l, st_l2i, st_i2b, st_i2s, st_i2c, st_lcmp, st_dup, st_pop, st_dup2, st_pop2, st_getfield, st_getstatic, st_checkcast, st_instanceof, st_putfield, st_putstatic, st_dstore, st_iaload, st_baload, st_laload, st_aaload, st_iastore, st_bastore, st_lastore, st_arraylength, st_dcmpg, st_dcmpl, st_fcmpg, st_fcmpl, st_monitorenter, st_tableswitch, st_multianewarray, st_invokeinterface, st_ireturn, st_lreturn, st_return_, st_ldc, st_ldc_w, st_ldc2_w, st_freturn, st_invokevirtual, st_anewarray0, st_anewarray1, st_anewarray2, st_anewarray3, st_anewarray4, st_anewarray5, st_lookupswitch, popI_c, popL_c, popR_c, popV_c, getI_c, getL_c, getR_c, lg_z, lg_s, ls1_z, ls1_o, ls1_s, ls2_z, ls2_o, ls2_s, noL_i, noL_l, noL_r, isL_i, isL_l, isL_r, tk_z, tk_s, psh_n, psh_s, ent_e, entL_n, entL_c, cc_eq, cc_ne, cc_lt, cc_ge, cc_gt, cc_le, swt_n, swt_c, lsw_n, lsw_c, mPs, NSTR_e, akds, alens, cnts, arfs, inb_e, lcm_lt, lcm_gt, lcm_ge, lcm_le, lcm_eq, lcm_a, lcm_b, Int.reduceToNat, Nat.reduceDiv, Nat.reduceMod, Nat.reduceMul, Nat.reduceAdd, Nat.reduceSub, Nat.reduceLT, Nat.reduceLeDiff, Nat.reduceEqDiff, Int.reduceNeg, Int.reduceAdd, Nat.one_mul, Nat.zero_mul, Nat.add_zero, Nat.zero_add, if_true, if_false, eq_self, true_and, and_true, true_or, or_true, false_or, or_false, List.length_cons, List.length_nil, List.cons_append, List.nil_append, List.replicate_zero, List.replicate_succ, Nat.lt_irrefl, reduceCtorEq, Bool.false_eq_true, in32, in64, Int.reduceLE, Int.reduceLT, Int.reduceEq, Int.reduceNe, not_true_eq_false, not_false_eq_true, true_implies, false_implies, implies_true, false_and, and_false, and_self, b_X4_advance, r_X4_advance, h_X4_advance_151, g4, f2, g3, i255, ic]
          (repeat' with_reducible first | apply And.intro | intro _)
          all_goals try omega
          all_goals refine j_indexOf (n := 0) (c := T q) (by decide) (by decide) tb (fun r x y z => ?_) (fun x => ?_)
          all_goals rw [l0] at *
          · have h26 : ¬ sgnK (T q) = 26 := by
              rcases sgn_s tb with ⟨_, h⟩ | ⟨h, _⟩
              · exact absurd z (h r x (by omega))
              · exact h
            have := s2 h26
            have m4 : mu σc 4 0 5 3 4 0 4 = q := by rw [mu_at, if_neg (by decide)]; exact g4
            simp only [wp_c, st_iload, st_lload, st_aload, st_istore, st_lstore, st_astore, st_iinc, st_sipush, st_jsr_w, st_goto, st_jsr, st_goto_w, st_if_icmp, st_ifCond, st_iadd, st_isub, st_imul, st_idiv, st_irem, st_iand, st_ior, st_ixor, st_ishl, st_ishr, st_iushr, st_ladd, st_lsub, st_lmul, st_ldiv, st_lrem, st_land, st_lor, st_lshl, st_lshr, st_i2l, st_l2i, st_i2b, st_i2s, st_i2c, st_lcmp, st_dup, st_pop, st_dup2, st_pop2, st_getfield, st_getstatic, st_checkcast, st_instanceof, st_putfield, st_putstatic, st_dstore, st_iaload, st_baload, st_laload, st_aaload, st_iastore, st_bastore, st_lastore, st_arraylength, st_dcmpg, st_dcmpl, st_fcmpg, st_fcmpl, st_monitorenter, st_tableswitch, st_multianewarray, st_invokeinterface, st_ireturn, st_lreturn, st_return_, st_ldc, st_ldc_w, st_ldc2_w, st_freturn, st_invokevirtual, st_anewarray0, st_anewarray1, st_anewarray2, st_anewarray3, st_anewarray4, st_anewarray5, st_lookupswitch, popI_c, popL_c, popR_c, popV_c, getI_c, getL_c, getR_c, lg_z, lg_s, ls1_z, ls1_o, ls1_s, ls2_z, ls2_o, ls2_s, noL_i, noL_l, noL_r, isL_i, isL_l, isL_r, tk_z, tk_s, psh_n, psh_s, ent_e, entL_n, entL_c, cc_eq, cc_ne, cc_lt, cc_ge, cc_gt, cc_le, swt_n, swt_c, lsw_n, lsw_c, mPs, NSTR_e, akds, alens, cnts, arfs, inb_e, lcm_lt, lcm_gt, lcm_ge, lcm_le, lcm_eq, lcm_a, lcm_b, Int.reduceToNat, Nat.reduceDiv, Nat.reduceMod, Nat.reduceMul, Nat.reduceAdd, Nat.reduceSub, Nat.reduceLT, Nat.reduceLeDiff, Nat.reduceEqDiff, Int.reduceNeg, Int.reduceAdd, Nat.one_mul, Nat.zero_mul, Nat.add_zero, Nat.zero_add, if_true, if_false, eq_self, true_and, and_true, true_or, or_true, false_or, or_false, List.length_cons, List.length_nil, List.cons_append, List.nil_append, List.replicate_zero, List.replicate_succ, Nat.lt_irrefl, reduceCtorEq, Bool.false_eq_true, in32, in64, Int.reduceLE, Int.reduceLT, Int.reduceEq, Int.reduceNe, not_true_eq_false, not_false_eq_true, true_implies, false_implies, implies_true, false_and, and_false, and_self, b_X4_advance, r_X4_advance, m4]
            (repeat' with_reducible first | apply And.intro | intro _)
            all_goals try omega
            all_goals exact this
          · have h26 : sgnK (T q) = 26 := by
              rcases sgn_s tb with ⟨h, _⟩ | ⟨_, r, r1, r2, r3, _⟩
              · exact h
              · exact absurd r3 (x r r1 (by omega))
            have := s1 h26
            simp only [wp_c, st_iload, st_lload, st_aload, st_istore, st_lstore, st_astore, st_iinc, st_sipush, st_jsr_w, st_goto, st_jsr, st_goto_w, st_if_icmp, st_ifCond, st_iadd, st_isub, st_imul, st_idiv, st_irem, st_iand, st_ior, st_ixor, st_ishl, st_ishr, st_iushr, st_ladd, st_lsub, st_lmul, st_ldiv, st_lrem, st_land, st_lor, st_lshl, st_lshr, st_i2l, st_l2i, st_i2b, st_i2s, st_i2c, st_lcmp, st_dup, st_pop, st_dup2, st_pop2, st_getfield, st_getstatic, st_checkcast, st_instanceof, st_putfield, st_putstatic, st_dstore, st_iaload, st_baload, st_laload, st_aaload, st_iastore, st_bastore, st_lastore, st_arraylength, st_dcmpg, st_dcmpl, st_fcmpg, st_fcmpl, st_monitorenter, st_tableswitch, st_multianewarray, st_invokeinterface, st_ireturn, st_lreturn, st_return_, st_ldc, st_ldc_w, st_ldc2_w, st_freturn, st_invokevirtual, st_anewarray0, st_anewarray1, st_anewarray2, st_anewarray3, st_anewarray4, st_anewarray5, st_lookupswitch, popI_c, popL_c, popR_c, popV_c, getI_c, getL_c, getR_c, lg_z, lg_s, ls1_z, ls1_o, ls1_s, ls2_z, ls2_o, ls2_s, noL_i, noL_l, noL_r, isL_i, isL_l, isL_r, tk_z, tk_s, psh_n, psh_s, ent_e, entL_n, entL_c, cc_eq, cc_ne, cc_lt, cc_ge, cc_gt, cc_le, swt_n, swt_c, lsw_n, lsw_c, mPs, NSTR_e, akds, alens, cnts, arfs, inb_e, lcm_lt, lcm_gt, lcm_ge, lcm_le, lcm_eq, lcm_a, lcm_b, Int.reduceToNat, Nat.reduceDiv, Nat.reduceMod, Nat.reduceMul, Nat.reduceAdd, Nat.reduceSub, Nat.reduceLT, Nat.reduceLeDiff, Nat.reduceEqDiff, Int.reduceNeg, Int.reduceAdd, Nat.one_mul, Nat.zero_mul, Nat.add_zero, Nat.zero_add, if_true, if_false, eq_self, true_and, and_true, true_or, or_true, false_or, or_false, List.length_cons, List.length_nil, List.cons_append, List.nil_append, List.replicate_zero, List.replicate_succ, Nat.lt_irrefl, reduceCtorEq, Bool.false_eq_true, in32, in64, Int.reduceLE, Int.reduceLT, Int.reduceEq, Int.reduceNe, not_true_eq_false, not_false_eq_true, true_implies, false_implies, implies_true, false_and, and_false, and_self, b_X4_advance, r_X4_advance]
            (repeat' with_reducible first | apply And.intro | intro _)
            all_goals try omega
            all_goals exact this
          · have h26 : ¬ sgnK (T q) = 26 := by
              rcases sgn_s tb with ⟨_, h⟩ | ⟨h, _⟩
              · exact absurd z (h r x (by omega))
              · exact h
            have := s2 h26
            have m4 : mu σc 4 0 5 3 4 0 4 = q := by rw [mu_at, if_neg (by decide)]; exact g4
            simp only [wp_c, st_iload, st_lload, st_aload, st_istore, st_lstore, st_astore, st_iinc, st_sipush, st_jsr_w, st_goto, st_jsr, st_goto_w, st_if_icmp, st_ifCond, st_iadd, st_isub, st_imul, st_idiv, st_irem, st_iand, st_ior, st_ixor, st_ishl, st_ishr, st_iushr, st_ladd, st_lsub, st_lmul, st_ldiv, st_lrem, st_land, st_lor, st_lshl, st_lshr, st_i2l, st_l2i, st_i2b, st_i2s, st_i2c, st_lcmp, st_dup, st_pop, st_dup2, st_pop2, st_getfield, st_getstatic, st_checkcast, st_instanceof, st_putfield, st_putstatic, st_dstore, st_iaload, st_baload, st_laload, st_aaload, st_iastore, st_bastore, st_lastore, st_arraylength, st_dcmpg, st_dcmpl, st_fcmpg, st_fcmpl, st_monitorenter, st_tableswitch, st_multianewarray, st_invokeinterface, st_ireturn, st_lreturn, st_return_, st_ldc, st_ldc_w, st_ldc2_w, st_freturn, st_invokevirtual, st_anewarray0, st_anewarray1, st_anewarray2, st_anewarray3, st_anewarray4, st_anewarray5, st_lookupswitch, popI_c, popL_c, popR_c, popV_c, getI_c, getL_c, getR_c, lg_z, lg_s, ls1_z, ls1_o, ls1_s, ls2_z, ls2_o, ls2_s, noL_i, noL_l, noL_r, isL_i, isL_l, isL_r, tk_z, tk_s, psh_n, psh_s, ent_e, entL_n, entL_c, cc_eq, cc_ne, cc_lt, cc_ge, cc_gt, cc_le, swt_n, swt_c, lsw_n, lsw_c, mPs, NSTR_e, akds, alens, cnts, arfs, inb_e, lcm_lt, lcm_gt, lcm_ge, lcm_le, lcm_eq, lcm_a, lcm_b, Int.reduceToNat, Nat.reduceDiv, Nat.reduceMod, Nat.reduceMul, Nat.reduceAdd, Nat.reduceSub, Nat.reduceLT, Nat.reduceLeDiff, Nat.reduceEqDiff, Int.reduceNeg, Int.reduceAdd, Nat.one_mul, Nat.zero_mul, Nat.add_zero, Nat.zero_add, if_true, if_false, eq_self, true_and, and_true, true_or, or_true, false_or, or_false, List.length_cons, List.length_nil, List.cons_append, List.nil_append, List.replicate_zero, List.replicate_succ, Nat.lt_irrefl, reduceCtorEq, Bool.false_eq_true, in32, in64, Int.reduceLE, Int.reduceLT, Int.reduceEq, Int.reduceNe, not_true_eq_false, not_false_eq_true, true_implies, false_implies, implies_true, false_and, and_false, and_self, b_X4_advance, r_X4_advance, m4]
            (repeat' with_reducible first | apply And.intro | intro _)
            all_goals try omega
            all_goals exact this
          · have h26 : sgnK (T q) = 26 := by
              rcases sgn_s tb with ⟨h, _⟩ | ⟨_, r, r1, r2, r3, _⟩
              · exact h
              · exact absurd r3 (x r r1 (by omega))
            have := s1 h26
            simp only [wp_c, st_iload, st_lload, st_aload, st_istore, st_lstore, st_astore, st_iinc, st_sipush, st_jsr_w, st_goto, st_jsr, st_goto_w, st_if_icmp, st_ifCond, st_iadd, st_isub, st_imul, st_idiv, st_irem, st_iand, st_ior, st_ixor, st_ishl, st_ishr, st_iushr, st_ladd, st_lsub, st_lmul, st_ldiv, st_lrem, st_land, st_lor, st_lshl, st_lshr, st_i2l, st_l2i, st_i2b, st_i2s, st_i2c, st_lcmp, st_dup, st_pop, st_dup2, st_pop2, st_getfield, st_getstatic, st_checkcast, st_instanceof, st_putfield, st_putstatic, st_dstore, st_iaload, st_baload, st_laload, st_aaload, st_iastore, st_bastore, st_lastore, st_arraylength, st_dcmpg, st_dcmpl, st_fcmpg, st_fcmpl, st_monitorenter, st_tableswitch, st_multianewarray, st_invokeinterface, st_ireturn, st_lreturn, st_return_, st_ldc, st_ldc_w, st_ldc2_w, st_freturn, st_invokevirtual, st_anewarray0, st_anewarray1, st_anewarray2, st_anewarray3, st_anewarray4, st_anewarray5, st_lookupswitch, popI_c, popL_c, popR_c, popV_c, getI_c, getL_c, getR_c, lg_z, lg_s, ls1_z, ls1_o, ls1_s, ls2_z, ls2_o, ls2_s, noL_i, noL_l, noL_r, isL_i, isL_l, isL_r, tk_z, tk_s, psh_n, psh_s, ent_e, entL_n, entL_c, cc_eq, cc_ne, cc_lt, cc_ge, cc_gt, cc_le, swt_n, swt_c, lsw_n, lsw_c, mPs, NSTR_e, akds, alens, cnts, arfs, inb_e, lcm_lt, lcm_gt, lcm_ge, lcm_le, lcm_eq, lcm_a, lcm_b, Int.reduceToNat, Nat.reduceDiv, Nat.reduceMod, Nat.reduceMul, Nat.reduceAdd, Nat.reduceSub, Nat.reduceLT, Nat.reduceLeDiff, Nat.reduceEqDiff, Int.reduceNeg, Int.reduceAdd, Nat.one_mul, Nat.zero_mul, Nat.add_zero, Nat.zero_add, if_true, if_false, eq_self, true_and, and_true, true_or, or_true, false_or, or_false, List.length_cons, List.length_nil, List.cons_append, List.nil_append, List.replicate_zero, List.replicate_succ, Nat.lt_irrefl, reduceCtorEq, Bool.false_eq_true, in32, in64, Int.reduceLE, Int.reduceLT, Int.reduceEq, Int.reduceNe, not_true_eq_false, not_false_eq_true, true_implies, false_implies, implies_true, false_and, and_false, and_self, b_X4_advance, r_X4_advance]
            (repeat' with_reducible first | apply And.intro | intro _)
            all_goals try omega
            all_goals exact this
        · have fn := fin q v σc (by omega) c1 c2 (c3.resolve_left c0) hh (fun x => (hv x).1) xc g3 g4 g6
          refine l_X4_advance_151 ?_
          simp only [wp_c, st_iload, st_lload, st_aload, st_istore, st_lstore, st_astore, st_iinc, st_sipush, st_jsr_w, st_goto, st_jsr, st_goto_w, st_if_icmp, st_ifCond, st_iadd, st_isub, st_imul, st_idiv, st_irem, st_iand, st_ior, st_ixor, st_ishl, st_ishr, st_iushr, st_ladd, st_lsub, st_lmul, st_ldiv, st_lrem, st_land, st_lor, st_lshl, st_lshr, st_i2l, st_l2i, st_i2b, st_i2s, st_i2c, st_lcmp, st_dup, st_pop, st_dup2, st_pop2, st_getfield, st_getstatic, st_checkcast, st_instanceof, st_putfield, st_putstatic, st_dstore, st_iaload, st_baload, st_laload, st_aaload, st_iastore, st_bastore, st_lastore, st_arraylength, st_dcmpg, st_dcmpl, st_fcmpg, st_fcmpl, st_monitorenter, st_tableswitch, st_multianewarray, st_invokeinterface, st_ireturn, st_lreturn, st_return_, st_ldc, st_ldc_w, st_ldc2_w, st_freturn, st_invokevirtual, st_anewarray0, st_anewarray1, st_anewarray2, st_anewarray3, st_anewarray4, st_anewarray5, st_lookupswitch, popI_c, popL_c, popR_c, popV_c, getI_c, getL_c, getR_c, lg_z, lg_s, ls1_z, ls1_o, ls1_s, ls2_z, ls2_o, ls2_s, noL_i, noL_l, noL_r, isL_i, isL_l, isL_r, tk_z, tk_s, psh_n, psh_s, ent_e, entL_n, entL_c, cc_eq, cc_ne, cc_lt, cc_ge, cc_gt, cc_le, swt_n, swt_c, lsw_n, lsw_c, mPs, NSTR_e, akds, alens, cnts, arfs, inb_e, lcm_lt, lcm_gt, lcm_ge, lcm_le, lcm_eq, lcm_a, lcm_b, Int.reduceToNat, Nat.reduceDiv, Nat.reduceMod, Nat.reduceMul, Nat.reduceAdd, Nat.reduceSub, Nat.reduceLT, Nat.reduceLeDiff, Nat.reduceEqDiff, Int.reduceNeg, Int.reduceAdd, Nat.one_mul, Nat.zero_mul, Nat.add_zero, Nat.zero_add, if_true, if_false, eq_self, true_and, and_true, true_or, or_true, false_or, or_false, List.length_cons, List.length_nil, List.cons_append, List.nil_append, List.replicate_zero, List.replicate_succ, Nat.lt_irrefl, reduceCtorEq, Bool.false_eq_true, in32, in64, Int.reduceLE, Int.reduceLT, Int.reduceEq, Int.reduceNe, not_true_eq_false, not_false_eq_true, true_implies, false_implies, implies_true, false_and, and_false, and_self, b_X4_advance, r_X4_advance, h_X4_advance_151, g4, f2, g3]
          (repeat' with_reducible first | apply And.intro | intro _)
          all_goals try omega
          all_goals first | exact fn _ (by rw [if_pos (by omega)]) | exact fn _ (by rw [if_neg (by omega)])
  -- words
  have H2 : ∀ (n : Nat) (q : Int) (σc : Mem), s ≤ q → q + n = L → whl (sml T L) n q = lxW T L s → (q = s ∨ sml T L s = true) → cfr σ σc → σc 4 0 3 = s → σc 4 0 4 = q → σc 4 0 5 = (if L ≤ s then 0 else if q = s then 4 else 1) → Rn (d + 5) 25 80 [.inr (.inr (some (4, 0)))] [] σc K := by
    have dn : ∀ (q : Int) (σc : Mem), s < q → s < L → sml T L s = true → q = lxW T L s → cfr σ σc → σc 4 0 3 = s → σc 4 0 4 = q → σc 4 0 5 = 1 → K none σc := by
      intro q σc c0 c1 c2 hh xc g3 g4 g5
      refine hK _ xc g3 ?_ ?_ (fun e2 => ?_)
      · unfold cxE; rw [if_neg (by omega), if_pos c2, ← hh]; exact g4
      · unfold cxK; rw [if_neg (by omega), if_pos c2]; exact g5
      · unfold cxK at e2
        rw [if_neg (by omega), if_pos c2] at e2
        omega
    intro n
    induction n with
    | zero =>
      intro q σc a1 a2 hh c3 xc g3 g4 g5
      have hh : q = _ := hh
      obtain ⟨f2, f40⟩ := F σc xc
      by_cases c : L ≤ s
      · rw [if_pos c] at g5
        have := hK σc xc g3 (by unfold cxE; rw [if_pos c]; omega) (by unfold cxK; rw [if_pos c]; exact g5) (fun e2 => by unfold cxK at e2; rw [if_pos c] at e2; omega)
        refine l_X4_advance_80 ?_
        simp only [wp_c, st_iload, st_lload, st_aload, st_istore, st_lstore, st_astore, st_iinc, st_sipush, st_jsr_w, st_goto, st_jsr, st_goto_w, st_if_icmp, st_ifCond, st_iadd, st_isub, st_imul, st_idiv, st_irem, st_iand, st_ior, st_ixor, st_ishl, st_ishr, st_iushr, st_ladd, st_lsub, st_lmul, st_ldiv, st_lrem, st_land, st_lor, st_lshl, st_lshr, st_i2l, st_l2i, st_i2b, st_i2s, st_i2c, st_lcmp, st_dup, st_pop, st_dup2, st_pop2, st_getfield, st_getstatic, st_checkcast, st_instanceof, st_putfield, st_putstatic, st_dstore, st_iaload, st_baload, st_laload, st_aaload, st_iastore, st_bastore, st_lastore, st_arraylength, st_dcmpg, st_dcmpl, st_fcmpg, st_fcmpl, st_monitorenter, st_tableswitch, st_multianewarray, st_invokeinterface, st_ireturn, st_lreturn, st_return_, st_ldc, st_ldc_w, st_ldc2_w, st_freturn, st_invokevirtual, st_anewarray0, st_anewarray1, st_anewarray2, st_anewarray3, st_anewarray4, st_anewarray5, st_lookupswitch, popI_c, popL_c, popR_c, popV_c, getI_c, getL_c, getR_c, lg_z, lg_s, ls1_z, ls1_o, ls1_s, ls2_z, ls2_o, ls2_s, noL_i, noL_l, noL_r, isL_i, isL_l, isL_r, tk_z, tk_s, psh_n, psh_s, ent_e, entL_n, entL_c, cc_eq, cc_ne, cc_lt, cc_ge, cc_gt, cc_le, swt_n, swt_c, lsw_n, lsw_c, mPs, NSTR_e, akds, alens, cnts, arfs, inb_e, lcm_lt, lcm_gt, lcm_ge, lcm_le, lcm_eq, lcm_a, lcm_b, Int.reduceToNat, Nat.reduceDiv, Nat.reduceMod, Nat.reduceMul, Nat.reduceAdd, Nat.reduceSub, Nat.reduceLT, Nat.reduceLeDiff, Nat.reduceEqDiff, Int.reduceNeg, Int.reduceAdd, Nat.one_mul, Nat.zero_mul, Nat.add_zero, Nat.zero_add, if_true, if_false, eq_self, true_and, and_true, true_or, or_true, false_or, or_false, List.length_cons, List.length_nil, List.cons_append, List.nil_append, List.replicate_zero, List.replicate_succ, Nat.lt_irrefl, reduceCtorEq, Bool.false_eq_true, in32, in64, Int.reduceLE, Int.reduceLT, Int.reduceEq, Int.reduceNe, not_true_eq_false, not_false_eq_true, true_implies, false_implies, implies_true, false_and, and_false, and_self, b_X4_advance, r_X4_advance, h_X4_advance_80, g4, f2, g5]
        (repeat' with_reducible first | apply And.intro | intro _)
        all_goals try omega
        all_goals exact this
      · rw [if_neg c, if_neg (by omega)] at g5
        have := dn q σc (by omega) (by omega) (c3.resolve_left (by omega)) hh xc g3 g4 g5
        refine l_X4_advance_80 ?_
        simp only [wp_c, st_iload, st_lload, st_aload, st_istore, st_lstore, st_astore, st_iinc, st_sipush, st_jsr_w, st_goto, st_jsr, st_goto_w, st_if_icmp, st_ifCond, st_iadd, st_isub, st_imul, st_idiv, st_irem, st_iand, st_ior, st_ixor, st_ishl, st_ishr, st_iushr, st_ladd, st_lsub, st_lmul, st_ldiv, st_lrem, st_land, st_lor, st_lshl, st_lshr, st_i2l, st_l2i, st_i2b, st_i2s, st_i2c, st_lcmp, st_dup, st_pop, st_dup2, st_pop2, st_getfield, st_getstatic, st_checkcast, st_instanceof, st_putfield, st_putstatic, st_dstore, st_iaload, st_baload, st_laload, st_aaload, st_iastore, st_bastore, st_lastore, st_arraylength, st_dcmpg, st_dcmpl, st_fcmpg, st_fcmpl, st_monitorenter, st_tableswitch, st_multianewarray, st_invokeinterface, st_ireturn, st_lreturn, st_return_, st_ldc, st_ldc_w, st_ldc2_w, st_freturn, st_invokevirtual, st_anewarray0, st_anewarray1, st_anewarray2, st_anewarray3, st_anewarray4, st_anewarray5, st_lookupswitch, popI_c, popL_c, popR_c, popV_c, getI_c, getL_c, getR_c, lg_z, lg_s, ls1_z, ls1_o, ls1_s, ls2_z, ls2_o, ls2_s, noL_i, noL_l, noL_r, isL_i, isL_l, isL_r, tk_z, tk_s, psh_n, psh_s, ent_e, entL_n, entL_c, cc_eq, cc_ne, cc_lt, cc_ge, cc_gt, cc_le, swt_n, swt_c, lsw_n, lsw_c, mPs, NSTR_e, akds, alens, cnts, arfs, inb_e, lcm_lt, lcm_gt, lcm_ge, lcm_le, lcm_eq, lcm_a, lcm_b, Int.reduceToNat, Nat.reduceDiv, Nat.reduceMod, Nat.reduceMul, Nat.reduceAdd, Nat.reduceSub, Nat.reduceLT, Nat.reduceLeDiff, Nat.reduceEqDiff, Int.reduceNeg, Int.reduceAdd, Nat.one_mul, Nat.zero_mul, Nat.add_zero, Nat.zero_add, if_true, if_false, eq_self, true_and, and_true, true_or, or_true, false_or, or_false, List.length_cons, List.length_nil, List.cons_append, List.nil_append, List.replicate_zero, List.replicate_succ, Nat.lt_irrefl, reduceCtorEq, Bool.false_eq_true, in32, in64, Int.reduceLE, Int.reduceLT, Int.reduceEq, Int.reduceNe, not_true_eq_false, not_false_eq_true, true_implies, false_implies, implies_true, false_and, and_false, and_self, b_X4_advance, r_X4_advance, h_X4_advance_80, g4, f2, g5]
        (repeat' with_reducible first | apply And.intro | intro _)
        all_goals try omega
        all_goals exact this
    | succ n ih =>
      intro q σc a1 a2 hh c3 xc g3 g4 g5
      obtain ⟨f2, f40⟩ := F σc xc
      have tb := hT2 q (by omega) (by omega)
      have tr := f40 q (by omega) (by omega)
      rw [if_neg (by omega)] at g5
      by_cases c : sml T L q = true
      · have cc := (of_decide_eq_true c).2
        rw [whl_t c] at hh
        have ss : sml T L s = true := by
          rcases c3 with h | h
          · rw [← h]; exact c
          · exact h
        have m4 : mu σc 4 0 5 1 4 0 4 = q := by rw [mu_at, if_neg (by decide)]; exact g4
        have := ih (q + 1) (mu (mu σc 4 0 5 1) 4 0 4 (q + 1)) (by omega) (by omega) hh (Or.inr ss) ((xc.mu (by omega)).mu (by omega)) (by rw [mu_at, if_neg (by decide), mu_at, if_neg (by decide)]; exact g3) (by rw [mu_at, if_pos rfl]) (by rw [mu_at, if_neg (by decide), mu_at, if_pos rfl, if_neg (by omega), if_neg (by omega)])
        refine l_X4_advance_80 ?_
        simp only [wp_c, st_iload, st_lload, st_aload, st_istore, st_lstore, st_astore, st_iinc, st_sipush, st_jsr_w, st_goto, st_jsr, st_goto_w, st_if_icmp, st_ifCond, st_iadd, st_isub, st_imul, st_idiv, st_irem, st_iand, st_ior, st_ixor, st_ishl, st_ishr, st_iushr, st_ladd, st_lsub, st_lmul, st_ldiv, st_lrem, st_land, st_lor, st_lshl, st_lshr, st_i2l, st_l2i, st_i2b, st_i2s, st_i2c, st_lcmp, st_dup, st_pop, st_dup2, st_pop2, st_getfield, st_getstatic, st_checkcast, st_instanceof, st_putfield, st_putstatic, st_dstore, st_iaload, st_baload, st_laload, st_aaload, st_iastore, st_bastore, st_lastore, st_arraylength, st_dcmpg, st_dcmpl, st_fcmpg, st_fcmpl, st_monitorenter, st_tableswitch, st_multianewarray, st_invokeinterface, st_ireturn, st_lreturn, st_return_, st_ldc, st_ldc_w, st_ldc2_w, st_freturn, st_invokevirtual, st_anewarray0, st_anewarray1, st_anewarray2, st_anewarray3, st_anewarray4, st_anewarray5, st_lookupswitch, popI_c, popL_c, popR_c, popV_c, getI_c, getL_c, getR_c, lg_z, lg_s, ls1_z, ls1_o, ls1_s, ls2_z, ls2_o, ls2_s, noL_i, noL_l, noL_r, isL_i, isL_l, isL_r, tk_z, tk_s, psh_n, psh_s, ent_e, entL_n, entL_c, cc_eq, cc_ne, cc_lt, cc_ge, cc_gt, cc_le, swt_n, swt_c, lsw_n, lsw_c, mPs, NSTR_e, akds, alens, cnts, arfs, inb_e, lcm_lt, lcm_gt, lcm_ge, lcm_le, lcm_eq, lcm_a, lcm_b, Int.reduceToNat, Nat.reduceDiv, Nat.reduceMod, Nat.reduceMul, Nat.reduceAdd, Nat.reduceSub, Nat.reduceLT, Nat.reduceLeDiff, Nat.reduceEqDiff, Int.reduceNeg, Int.reduceAdd, Nat.one_mul, Nat.zero_mul, Nat.add_zero, Nat.zero_add, if_true, if_false, eq_self, true_and, and_true, true_or, or_true, false_or, or_false, List.length_cons, List.length_nil, List.cons_append, List.nil_append, List.replicate_zero, List.replicate_succ, Nat.lt_irrefl, reduceCtorEq, Bool.false_eq_true, in32, in64, Int.reduceLE, Int.reduceLT, Int.reduceEq, Int.reduceNe, not_true_eq_false, not_false_eq_true, true_implies, false_implies, implies_true, false_and, and_false, and_self, b_X4_advance, r_X4_advance, h_X4_advance_80, g4, f2, m4]
        (repeat' with_reducible first | apply And.intro | intro _)
        all_goals try omega
        all_goals exact this
      · rw [whl_f c] at hh
        have nd : ¬ (97 ≤ T q ∧ T q ≤ 122) := fun x => c (decide_eq_true ⟨by omega, x⟩)
        by_cases c0 : q = s
        · subst c0
          rw [if_pos rfl] at g5
          have := H3 (L - q).toNat q 0 (mu σc 4 0 6 0) (Int.le_refl _) (by omega) (by omega) c (Or.inl rfl) rfl ⟨by decide, by decide⟩ (fun _ => ⟨by unfold mn3; rw [show q - q = 0 by omega]; rfl, by rw [if_pos (by omega)]; decide⟩) (xc.mu (by omega)) (by rw [mu_at, if_neg (by decide)]; exact g3) (by rw [mu_at, if_neg (by decide)]; exact g4) (by rw [mu_at, if_neg (by decide)]; exact g5) (by rw [mu_at, if_pos rfl])
          refine l_X4_advance_80 ?_
          simp only [wp_c, st_iload, st_lload, st_aload, st_istore, st_lstore, st_astore, st_iinc, st_sipush, st_jsr_w, st_goto, st_jsr, st_goto_w, st_if_icmp, st_ifCond, st_iadd, st_isub, st_imul, st_idiv, st_irem, st_iand, st_ior, st_ixor, st_ishl, st_ishr, st_iushr, st_ladd, st_lsub, st_lmul, st_ldiv, st_lrem, st_land, st_lor, st_lshl, st_lshr, st_i2l, st_l2i, st_i2b, st_i2s, st_i2c, st_lcmp, st_dup, st_pop, st_dup2, st_pop2, st_getfield, st_getstatic, st_checkcast, st_instanceof, st_putfield, st_putstatic, st_dstore, st_iaload, st_baload, st_laload, st_aaload, st_iastore, st_bastore, st_lastore, st_arraylength, st_dcmpg, st_dcmpl, st_fcmpg, st_fcmpl, st_monitorenter, st_tableswitch, st_multianewarray, st_invokeinterface, st_ireturn, st_lreturn, st_return_, st_ldc, st_ldc_w, st_ldc2_w, st_freturn, st_invokevirtual, st_anewarray0, st_anewarray1, st_anewarray2, st_anewarray3, st_anewarray4, st_anewarray5, st_lookupswitch, popI_c, popL_c, popR_c, popV_c, getI_c, getL_c, getR_c, lg_z, lg_s, ls1_z, ls1_o, ls1_s, ls2_z, ls2_o, ls2_s, noL_i, noL_l, noL_r, isL_i, isL_l, isL_r, tk_z, tk_s, psh_n, psh_s, ent_e, entL_n, entL_c, cc_eq, cc_ne, cc_lt, cc_ge, cc_gt, cc_le, swt_n, swt_c, lsw_n, lsw_c, mPs, NSTR_e, akds, alens, cnts, arfs, inb_e, lcm_lt, lcm_gt, lcm_ge, lcm_le, lcm_eq, lcm_a, lcm_b, Int.reduceToNat, Nat.reduceDiv, Nat.reduceMod, Nat.reduceMul, Nat.reduceAdd, Nat.reduceSub, Nat.reduceLT, Nat.reduceLeDiff, Nat.reduceEqDiff, Int.reduceNeg, Int.reduceAdd, Nat.one_mul, Nat.zero_mul, Nat.add_zero, Nat.zero_add, if_true, if_false, eq_self, true_and, and_true, true_or, or_true, false_or, or_false, List.length_cons, List.length_nil, List.cons_append, List.nil_append, List.replicate_zero, List.replicate_succ, Nat.lt_irrefl, reduceCtorEq, Bool.false_eq_true, in32, in64, Int.reduceLE, Int.reduceLT, Int.reduceEq, Int.reduceNe, not_true_eq_false, not_false_eq_true, true_implies, false_implies, implies_true, false_and, and_false, and_self, b_X4_advance, r_X4_advance, h_X4_advance_80, g4, f2, g5]
          (repeat' with_reducible first | apply And.intro | intro _)
          all_goals try omega
          all_goals exact this
        · rw [if_neg c0] at g5
          have := dn q σc (by omega) (by omega) (c3.resolve_left c0) hh xc g3 g4 g5
          refine l_X4_advance_80 ?_
          simp only [wp_c, st_iload, st_lload, st_aload, st_istore, st_lstore, st_astore, st_iinc, st_sipush, st_jsr_w, st_goto, st_jsr, st_goto_w, st_if_icmp, st_ifCond, st_iadd, st_isub, st_imul, st_idiv, st_irem, st_iand, st_ior, st_ixor, st_ishl, st_ishr, st_iushr, st_ladd, st_lsub, st_lmul, st_ldiv, st_lrem, st_land, st_lor, st_lshl, st_lshr, st_i2l, st_l2i, st_i2b, st_i2s, st_i2c, st_lcmp, st_dup, st_pop, st_dup2, st_pop2, st_getfield, st_getstatic, st_checkcast, st_instanceof, st_putfield, st_putstatic, st_dstore, st_iaload, st_baload, st_laload, st_aaload, st_iastore, st_bastore, st_lastore, st_arraylength, st_dcmpg, st_dcmpl, st_fcmpg, st_fcmpl, st_monitorenter, st_tableswitch, st_multianewarray, st_invokeinterface, st_ireturn, st_lreturn, st_return_, st_ldc, st_ldc_w, st_ldc2_w, st_freturn, st_invokevirtual, st_anewarray0, st_anewarray1, st_anewarray2, st_anewarray3, st_anewarray4, st_anewarray5, st_lookupswitch, popI_c, popL_c, popR_c, popV_c, getI_c, getL_c, getR_c, lg_z, lg_s, ls1_z, ls1_o, ls1_s, ls2_z, ls2_o, ls2_s, noL_i, noL_l, noL_r, isL_i, isL_l, isL_r, tk_z, tk_s, psh_n, psh_s, ent_e, entL_n, entL_c, cc_eq, cc_ne, cc_lt, cc_ge, cc_gt, cc_le, swt_n, swt_c, lsw_n, lsw_c, mPs, NSTR_e, akds, alens, cnts, arfs, inb_e, lcm_lt, lcm_gt, lcm_ge, lcm_le, lcm_eq, lcm_a, lcm_b, Int.reduceToNat, Nat.reduceDiv, Nat.reduceMod, Nat.reduceMul, Nat.reduceAdd, Nat.reduceSub, Nat.reduceLT, Nat.reduceLeDiff, Nat.reduceEqDiff, Int.reduceNeg, Int.reduceAdd, Nat.one_mul, Nat.zero_mul, Nat.add_zero, Nat.zero_add, if_true, if_false, eq_self, true_and, and_true, true_or, or_true, false_or, or_false, List.length_cons, List.length_nil, List.cons_append, List.nil_append, List.replicate_zero, List.replicate_succ, Nat.lt_irrefl, reduceCtorEq, Bool.false_eq_true, in32, in64, Int.reduceLE, Int.reduceLT, Int.reduceEq, Int.reduceNe, not_true_eq_false, not_false_eq_true, true_implies, false_implies, implies_true, false_and, and_false, and_self, b_X4_advance, r_X4_advance, h_X4_advance_80, g4, f2, g5]
          (repeat' with_reducible first | apply And.intro | intro _)
          all_goals try omega
          all_goals exact this
  have H1 : ∀ (n : Nat) (q : Int) (σc : Mem), p ≤ q → q + n = L → whl (wht T L) n q = s → cfr σ σc → σc 4 0 4 = q → Rn (d + 5) 25 0 [.inr (.inr (some (4, 0)))] [] σc K := by
    have go : ∀ (σc : Mem), cfr σ σc → σc 4 0 4 = s → Rn (d + 5) 25 80 [.inr (.inr (some (4, 0)))] [] (mu (mu σc 4 0 3 s) 4 0 5 (if L ≤ s then 0 else 4)) K := fun σc xc g4 =>
      H2 (L - s).toNat s _ (Int.le_refl _) (by omega) rfl (Or.inl rfl) ((xc.mu (by omega)).mu (by omega)) (by rw [mu_at, if_neg (by decide), mu_at, if_pos rfl]) (by rw [mu_at, if_neg (by decide), mu_at, if_neg (by decide)]; exact g4) (by rw [mu_at, if_pos rfl, if_pos (show s = s from rfl)])
    intro n
    induction n with
    | zero =>
      intro q σc a1 a2 hh xc g4
      have hh : q = s := hh
      subst hh
      obtain ⟨f2, f40⟩ := F σc xc
      have := go σc xc g4
      rw [if_pos (by omega)] at this
      have m3 : mu σc 4 0 3 q 4 0 3 = q := by rw [mu_at, if_pos rfl]
      have m2 : mu σc 4 0 3 q 4 0 2 = L := by rw [mu_at, if_neg (by decide)]; exact f2
      refine l_X4_advance_0 ?_
      simp only [wp_c, st_iload, st_lload, st_aload, st_istore, st_lstore, st_astore, st_iinc, st_sipush, st_jsr_w, st_goto, st_jsr, st_goto_w, st_if_icmp, st_ifCond, st_iadd, st_isub, st_imul, st_idiv, st_irem, st_iand, st_ior, st_ixor, st_ishl, st_ishr, st_iushr, st_ladd, st_lsub, st_lmul, st_ldiv, st_lrem, st_land, st_lor, st_lshl, st_lshr, st_i2l, st_l2i, st_i2b, st_i2s, st_i2c, st_lcmp, st_dup, st_pop, st_dup2, st_pop2, st_getfield, st_getstatic, st_checkcast, st_instanceof, st_putfield, st_putstatic, st_dstore, st_iaload, st_baload, st_laload, st_aaload, st_iastore, st_bastore, st_lastore, st_arraylength, st_dcmpg, st_dcmpl, st_fcmpg, st_fcmpl, st_monitorenter, st_tableswitch, st_multianewarray, st_invokeinterface, st_ireturn, st_lreturn, st_return_, st_ldc, st_ldc_w, st_ldc2_w, st_freturn, st_invokevirtual, st_anewarray0, st_anewarray1, st_anewarray2, st_anewarray3, st_anewarray4, st_anewarray5, st_lookupswitch, popI_c, popL_c, popR_c, popV_c, getI_c, getL_c, getR_c, lg_z, lg_s, ls1_z, ls1_o, ls1_s, ls2_z, ls2_o, ls2_s, noL_i, noL_l, noL_r, isL_i, isL_l, isL_r, tk_z, tk_s, psh_n, psh_s, ent_e, entL_n, entL_c, cc_eq, cc_ne, cc_lt, cc_ge, cc_gt, cc_le, swt_n, swt_c, lsw_n, lsw_c, mPs, NSTR_e, akds, alens, cnts, arfs, inb_e, lcm_lt, lcm_gt, lcm_ge, lcm_le, lcm_eq, lcm_a, lcm_b, Int.reduceToNat, Nat.reduceDiv, Nat.reduceMod, Nat.reduceMul, Nat.reduceAdd, Nat.reduceSub, Nat.reduceLT, Nat.reduceLeDiff, Nat.reduceEqDiff, Int.reduceNeg, Int.reduceAdd, Nat.one_mul, Nat.zero_mul, Nat.add_zero, Nat.zero_add, if_true, if_false, eq_self, true_and, and_true, true_or, or_true, false_or, or_false, List.length_cons, List.length_nil, List.cons_append, List.nil_append, List.replicate_zero, List.replicate_succ, Nat.lt_irrefl, reduceCtorEq, Bool.false_eq_true, in32, in64, Int.reduceLE, Int.reduceLT, Int.reduceEq, Int.reduceNe, not_true_eq_false, not_false_eq_true, true_implies, false_implies, implies_true, false_and, and_false, and_self, b_X4_advance, r_X4_advance, h_X4_advance_0, g4, f2, m3, m2]
      (repeat' with_reducible first | apply And.intro | intro _)
      all_goals try omega
      all_goals exact this
    | succ n ih =>
      intro q σc a1 a2 hh xc g4
      obtain ⟨f2, f40⟩ := F σc xc
      have tb := hT2 q (by omega) (by omega)
      have tr := f40 q (by omega) (by omega)
      by_cases c : wht T L q = true
      · have cc := (of_decide_eq_true c).2
        rw [whl_t c] at hh
        have := ih (q + 1) (mu σc 4 0 4 (q + 1)) (by omega) (by omega) hh (xc.mu (by omega)) (by rw [mu_at, if_pos rfl])
        refine l_X4_advance_0 ?_
        simp only [wp_c, st_iload, st_lload, st_aload, st_istore, st_lstore, st_astore, st_iinc, st_sipush, st_jsr_w, st_goto, st_jsr, st_goto_w, st_if_icmp, st_ifCond, st_iadd, st_isub, st_imul, st_idiv, st_irem, st_iand, st_ior, st_ixor, st_ishl, st_ishr, st_iushr, st_ladd, st_lsub, st_lmul, st_ldiv, st_lrem, st_land, st_lor, st_lshl, st_lshr, st_i2l, st_l2i, st_i2b, st_i2s, st_i2c, st_lcmp, st_dup, st_pop, st_dup2, st_pop2, st_getfield, st_getstatic, st_checkcast, st_instanceof, st_putfield, st_putstatic, st_dstore, st_iaload, st_baload, st_laload, st_aaload, st_iastore, st_bastore, st_lastore, st_arraylength, st_dcmpg, st_dcmpl, st_fcmpg, st_fcmpl, st_monitorenter, st_tableswitch, st_multianewarray, st_invokeinterface, st_ireturn, st_lreturn, st_return_, st_ldc, st_ldc_w, st_ldc2_w, st_freturn, st_invokevirtual, st_anewarray0, st_anewarray1, st_anewarray2, st_anewarray3, st_anewarray4, st_anewarray5, st_lookupswitch, popI_c, popL_c, popR_c, popV_c, getI_c, getL_c, getR_c, lg_z, lg_s, ls1_z, ls1_o, ls1_s, ls2_z, ls2_o, ls2_s, noL_i, noL_l, noL_r, isL_i, isL_l, isL_r, tk_z, tk_s, psh_n, psh_s, ent_e, entL_n, entL_c, cc_eq, cc_ne, cc_lt, cc_ge, cc_gt, cc_le, swt_n, swt_c, lsw_n, lsw_c, mPs, NSTR_e, akds, alens, cnts, arfs, inb_e, lcm_lt, lcm_gt, lcm_ge, lcm_le, lcm_eq, lcm_a, lcm_b, Int.reduceToNat, Nat.reduceDiv, Nat.reduceMod, Nat.reduceMul, Nat.reduceAdd, Nat.reduceSub, Nat.reduceLT, Nat.reduceLeDiff, Nat.reduceEqDiff, Int.reduceNeg, Int.reduceAdd, Nat.one_mul, Nat.zero_mul, Nat.add_zero, Nat.zero_add, if_true, if_false, eq_self, true_and, and_true, true_or, or_true, false_or, or_false, List.length_cons, List.length_nil, List.cons_append, List.nil_append, List.replicate_zero, List.replicate_succ, Nat.lt_irrefl, reduceCtorEq, Bool.false_eq_true, in32, in64, Int.reduceLE, Int.reduceLT, Int.reduceEq, Int.reduceNe, not_true_eq_false, not_false_eq_true, true_implies, false_implies, implies_true, false_and, and_false, and_self, b_X4_advance, r_X4_advance, h_X4_advance_0, g4, f2]
        (repeat' with_reducible first | apply And.intro | intro _)
        all_goals try omega
        all_goals exact this
      · rw [whl_f c] at hh
        subst hh
        have nd : ¬ (T q = 10 ∨ T q = 32) := fun x => c (decide_eq_true ⟨by omega, x⟩)
        have := go σc xc g4
        rw [if_neg (by omega)] at this
        have m3 : mu σc 4 0 3 q 4 0 3 = q := by rw [mu_at, if_pos rfl]
        have m2 : mu σc 4 0 3 q 4 0 2 = L := by rw [mu_at, if_neg (by decide)]; exact f2
        refine l_X4_advance_0 ?_
        simp only [wp_c, st_iload, st_lload, st_aload, st_istore, st_lstore, st_astore, st_iinc, st_sipush, st_jsr_w, st_goto, st_jsr, st_goto_w, st_if_icmp, st_ifCond, st_iadd, st_isub, st_imul, st_idiv, st_irem, st_iand, st_ior, st_ixor, st_ishl, st_ishr, st_iushr, st_ladd, st_lsub, st_lmul, st_ldiv, st_lrem, st_land, st_lor, st_lshl, st_lshr, st_i2l, st_l2i, st_i2b, st_i2s, st_i2c, st_lcmp, st_dup, st_pop, st_dup2, st_pop2, st_getfield, st_getstatic, st_checkcast, st_instanceof, st_putfield, st_putstatic, st_dstore, st_iaload, st_baload, st_laload, st_aaload, st_iastore, st_bastore, st_lastore, st_arraylength, st_dcmpg, st_dcmpl, st_fcmpg, st_fcmpl, st_monitorenter, st_tableswitch, st_multianewarray, st_invokeinterface, st_ireturn, st_lreturn, st_return_, st_ldc, st_ldc_w, st_ldc2_w, st_freturn, st_invokevirtual, st_anewarray0, st_anewarray1, st_anewarray2, st_anewarray3, st_anewarray4, st_anewarray5, st_lookupswitch, popI_c, popL_c, popR_c, popV_c, getI_c, getL_c, getR_c, lg_z, lg_s, ls1_z, ls1_o, ls1_s, ls2_z, ls2_o, ls2_s, noL_i, noL_l, noL_r, isL_i, isL_l, isL_r, tk_z, tk_s, psh_n, psh_s, ent_e, entL_n, entL_c, cc_eq, cc_ne, cc_lt, cc_ge, cc_gt, cc_le, swt_n, swt_c, lsw_n, lsw_c, mPs, NSTR_e, akds, alens, cnts, arfs, inb_e, lcm_lt, lcm_gt, lcm_ge, lcm_le, lcm_eq, lcm_a, lcm_b, Int.reduceToNat, Nat.reduceDiv, Nat.reduceMod, Nat.reduceMul, Nat.reduceAdd, Nat.reduceSub, Nat.reduceLT, Nat.reduceLeDiff, Nat.reduceEqDiff, Int.reduceNeg, Int.reduceAdd, Nat.one_mul, Nat.zero_mul, Nat.add_zero, Nat.zero_add, if_true, if_false, eq_self, true_and, and_true, true_or, or_true, false_or, or_false, List.length_cons, List.length_nil, List.cons_append, List.nil_append, List.replicate_zero, List.replicate_succ, Nat.lt_irrefl, reduceCtorEq, Bool.false_eq_true, in32, in64, Int.reduceLE, Int.reduceLT, Int.reduceEq, Int.reduceNe, not_true_eq_false, not_false_eq_true, true_implies, false_implies, implies_true, false_and, and_false, and_self, b_X4_advance, r_X4_advance, h_X4_advance_0, g4, f2, m3, m2]
        (repeat' with_reducible first | apply And.intro | intro _)
        all_goals try omega
        all_goals exact this
  have fin := H1 (L - p).toNat p σ (Int.le_refl _) (by omega) hs cfr.rf h4
  refine e_X4_advance (Nat.le_of_ble_eq_true rfl) ?_
  simp only [wp_c, st_iload, st_lload, st_aload, st_istore, st_lstore, st_astore, st_iinc, st_sipush, st_jsr_w, st_goto, st_jsr, st_goto_w, st_if_icmp, st_ifCond, st_iadd, st_isub, st_imul, st_idiv, st_irem, st_iand, st_ior, st_ixor, st_ishl, st_ishr, st_iushr, st_ladd, st_lsub, st_lmul, st_ldiv, st_lrem, st_land, st_lor, st_lshl, st_lshr, st_i2l, st_l2i, st_i2b, st_i2s, st_i2c, st_lcmp, st_dup, st_pop, st_dup2, st_pop2, st_getfield, st_getstatic, st_checkcast, st_instanceof, st_putfield, st_putstatic, st_dstore, st_iaload, st_baload, st_laload, st_aaload, st_iastore, st_bastore, st_lastore, st_arraylength, st_dcmpg, st_dcmpl, st_fcmpg, st_fcmpl, st_monitorenter, st_tableswitch, st_multianewarray, st_invokeinterface, st_ireturn, st_lreturn, st_return_, st_ldc, st_ldc_w, st_ldc2_w, st_freturn, st_invokevirtual, st_anewarray0, st_anewarray1, st_anewarray2, st_anewarray3, st_anewarray4, st_anewarray5, st_lookupswitch, popI_c, popL_c, popR_c, popV_c, getI_c, getL_c, getR_c, lg_z, lg_s, ls1_z, ls1_o, ls1_s, ls2_z, ls2_o, ls2_s, noL_i, noL_l, noL_r, isL_i, isL_l, isL_r, tk_z, tk_s, psh_n, psh_s, ent_e, entL_n, entL_c, cc_eq, cc_ne, cc_lt, cc_ge, cc_gt, cc_le, swt_n, swt_c, lsw_n, lsw_c, mPs, NSTR_e, akds, alens, cnts, arfs, inb_e, lcm_lt, lcm_gt, lcm_ge, lcm_le, lcm_eq, lcm_a, lcm_b, Int.reduceToNat, Nat.reduceDiv, Nat.reduceMod, Nat.reduceMul, Nat.reduceAdd, Nat.reduceSub, Nat.reduceLT, Nat.reduceLeDiff, Nat.reduceEqDiff, Int.reduceNeg, Int.reduceAdd, Nat.one_mul, Nat.zero_mul, Nat.add_zero, Nat.zero_add, if_true, if_false, eq_self, true_and, and_true, true_or, or_true, false_or, or_false, List.length_cons, List.length_nil, List.cons_append, List.nil_append, List.replicate_zero, List.replicate_succ, Nat.lt_irrefl, reduceCtorEq, Bool.false_eq_true, in32, in64, Int.reduceLE, Int.reduceLT, Int.reduceEq, Int.reduceNe, not_true_eq_false, not_false_eq_true, true_implies, false_implies, implies_true, false_and, and_false, and_self, b_X4_advance, r_X4_advance]
  exact fin
end ADV
