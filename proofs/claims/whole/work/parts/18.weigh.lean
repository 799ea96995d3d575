/-! 18: what one weighs, whether one may come: mathematics, and the reference -/
theorem lrun_congr {ws ws' : Nat → Int} : ∀ (cs st : List Int), (∀ c ∈ cs, 1000 ≤ c → c < 3000 → ws (c - 1000).toNat = ws' (c - 1000).toNat) → lrun ws cs st = lrun ws' cs st := by
  intro cs
  induction cs with
  | nil => intro st _; rfl
  | cons c cs ih =>
    intro st h
    have e : lstep ws c st = lstep ws' c st := by
      unfold lstep
      split
      · rfl
      · split
        · rw [h c List.mem_cons_self (by omega) (by omega)]
        · rfl
    show lrun ws cs (lstep ws c st) = lrun ws' cs (lstep ws' c st)
    rw [e]
    exact ih _ (fun c' hc => h c' (List.mem_cons_of_mem _ hc))
def lawR (a : BV) (law : Nat) : List Int := if a (4 + law) = 0 then [] else (List.range (a (8 + law)).toNat).map (fun i => a (614 + (a (6 + law)).toNat + i))
/-- a law as readers make it: typed, with its own words alone -/
def LwOk (law : Nat) (cs : List Int) : Prop := cs = [] ∨ (trun cs [] = some [decide (law = 1)] ∧ ∀ c ∈ cs, 1000 ≤ c → c < 3000 → (law = 0 → c ≤ 1005) ∧ (law = 1 → c ≤ 1002 ∨ 1006 ≤ c))
/-- the laws in the reference's rows -/
def LawA (a : BV) : Prop := ∀ law, law < 2 → (a (4 + law) = 0 ∨ a (4 + law) = 1) ∧ (a (4 + law) = 1 → 0 ≤ a (6 + law) ∧ 1 ≤ a (8 + law) ∧ a (6 + law) + a (8 + law) ≤ 900) ∧ LwOk law (lawR a law)
theorem lawR_len {a : BV} {law : Nat} (h : a (4 + law) = 1) : (lawR a law).length = (a (8 + law)).toNat := by
  unfold lawR
  rw [if_neg (by omega)]
  simp
theorem lawR_get {a : BV} {law i : Nat} {c : Int} (h : a (4 + law) = 1) (hc : (lawR a law)[i]? = some c) : a (614 + (a (6 + law)).toNat + i) = c := by
  unfold lawR at hc
  rw [if_neg (by omega), List.getElem?_map] at hc
  cases hi : (List.range (a (8 + law)).toNat)[i]? with
  | none => rw [hi] at hc; cases hc
  | some x =>
    rw [hi] at hc
    obtain ⟨h1, hx⟩ := List.getElem?_eq_some_iff.mp hi
    rw [List.getElem_range] at hx
    have := Option.some.inj hc
    rw [← this, hx]
theorem lawR_nil {a : BV} {law : Nat} (h : a (4 + law) = 1) (h1 : 1 ≤ a (8 + law)) : ¬ lawR a law = [] := by
  intro e
  have := lawR_len h
  rw [e] at this
  simp at this
  omega
def clW (v : Int) : Int := if v < 0 then 0 else if v > 9999 then 9999 else v
def wsW (a : BV) (p : Int) (i : Nat) : Int := if i = 0 then p else if i = 1 then (a 18).tmod 7 else if i = 2 then a 19 else if i = 3 then mDebtOf a p else if i = 4 then mPapersOf a p else mOwedTo a p
def wgt (a : BV) (lw : List Int) (p : Int) : Int := if lw = [] then mDebtOf a p else clW (lval (wsW a p) lw)
def wsL (a : BV) (w p k o : Int) (i : Nat) : Int := if i = 0 then p else if i = 1 then (a 18).tmod 7 else if i = 2 then a 19 else if i = 6 then k else if i = 7 then w else o
def mMay (a : BV) (lw ll : List Int) (p k o : Int) : Prop := ll = [] ∨ lval (wsL a (wgt a lw p) p k o) ll = 1
theorem wgt_le {a : BV} (ho : OkA a) {lw : List Int} {p : Int} (hp : 0 ≤ p ∧ p < 6) : 0 ≤ wgt a lw p ∧ wgt a lw p ≤ 9999 := by
  unfold wgt
  split
  · have := ho.debtOf hp; omega
  · unfold clW
    split
    · omega
    · split <;> omega
theorem day_b {a : BV} (ho : OkA a) : 0 ≤ (a 18).tmod 7 ∧ (a 18).tmod 7 < 7 := by
  have h := ho.day
  exact ⟨Int.tmod_nonneg _ h.1, Int.tmod_lt_of_pos _ (by decide)⟩
/-- the value of a typed law -/
theorem lval_ty {ws : Nat → Int} {cs : List Int} (hw : ∀ c ∈ cs, wbd ws c) {ty : Bool} (h : trun cs [] = some [ty]) : (ty = true → lval ws cs = 0 ∨ lval ws cs = 1) ∧ -1000000 ≤ lval ws cs ∧ lval ws cs ≤ 1000000 := by
  have H : ∀ (cs st : List Int) (ts : List Bool), (∀ c ∈ cs, wbd ws c) → tyd st ts → trun cs ts = some [ty] → tyd (lrun ws cs st) [ty] := by
    intro cs
    induction cs with
    | nil => intro st ts _ h1 h2; have : ts = [ty] := Option.some.inj h2; rw [← this]; exact h1
    | cons c cs ih =>
      intro st ts hc h1 h2
      simp only [trun] at h2
      cases hts : tstep c ts with
      | none => rw [hts] at h2; cases h2
      | some ts' =>
        rw [hts] at h2
        exact ih _ _ (fun c' h => hc c' (List.mem_cons_of_mem _ h)) (tyd_step (hc c List.mem_cons_self) h1 hts) h2
  have h1 := H cs [] [] hw trivial h
  obtain ⟨x, s, e, g1, g2⟩ := tyd_1 h1
  have : lval ws cs = x := by unfold lval; rw [e]; rfl
  rw [this]
  constructor
  · intro e; rw [e] at g1; simpa using g1
  · split at g1 <;> omega
theorem wsW_b {a : BV} (ho : OkA a) {p : Int} (hp : 0 ≤ p ∧ p < 6) (c : Int) : wbd (wsW a p) c := by
  intro _ _
  have b1 := ho.debtOf hp
  have b2 := ho.papersOf (p := p)
  have b3 := ho.owedTo hp
  have b4 := day_b ho
  have b5 := ho.snow
  unfold wsW
  split
  · omega
  · split
    · omega
    · split
      · omega
      · split
        · omega
        · split <;> omega
theorem wsL_b {a : BV} (ho : OkA a) {w p k o : Int} (hw : 0 ≤ w ∧ w ≤ 9999) (hp : 0 ≤ p ∧ p < 6) (hk : 0 ≤ k ∧ k < 8) (hoo : 0 ≤ o ∧ o ≤ 6) (c : Int) : wbd (wsL a w p k o) c := by
  intro _ _
  have b4 := day_b ho
  have b5 := ho.snow
  unfold wsL
  split
  · omega
  · split
    · omega
    · split
      · omega
      · split
        · omega
        · split <;> omega
section WEIGH
variable {d : Nat} {σ : Mem} {K : Option AV → Mem → Prop}
theorem q_weightOf {p : Int} (hp : 0 ≤ p ∧ p < 6) (ho : OkA (σ 44 0)) (hl : LawA (σ 44 0)) (hK : ∀ σ', eqx [48, 49] σ σ' → K (some (.inl (wgt (σ 44 0) (lawR (σ 44 0) 0) p))) σ') : Ev (d + 3) 190 [mo, .inl p] σ K := by
  obtain ⟨h1, h2, h3⟩ := hl 0 (by decide)
  simp only [Nat.add_zero] at h1 h2
  have b4 := day_b ho
  refine e_X12_weightOf (Nat.le_of_ble_eq_true rfl) ?_
  simp only [wp_c, st_iload, st_lload, st_aload, st_istore, st_lstore, st_astore, st_iinc, st_sipush, st_jsr_w, st_goto, st_jsr, st_goto_w, st_if_icmp, st_ifCond, st_iadd, st_isub, st_imul, st_idiv, st_irem, st_iand, st_ior, st_ixor, st_ishl, st_ishr, st_iushr, st_ladd, st_lsub, st_lmul, st_ldiv, st_lrem, st_land, st_lor, st_lshl, st_lshr, st_i2l, st_l2i, st_i2b, st_i2s, st_i2c, st_lcmp, st_dup, st_pop, st_dup2, st_pop2, st_getfield, st_getstatic, st_checkcast, st_instanceof, st_putfield, st_putstatic, st_dstore, st_iaload, st_baload, st_laload, st_aaload, st_iastore, st_bastore, st_lastore, st_arraylength, st_dcmpg, st_dcmpl, st_fcmpg, st_fcmpl, st_monitorenter, st_tableswitch, st_multianewarray, st_invokeinterface, st_ireturn, st_lreturn, st_return_, st_ldc, st_ldc_w, st_ldc2_w, st_freturn, st_invokevirtual, st_anewarray0, st_anewarray1, st_anewarray2, st_anewarray3, st_anewarray4, st_anewarray5, st_lookupswitch, popI_c, popL_c, popR_c, popV_c, getI_c, getL_c, getR_c, lg_z, lg_s, ls1_z, ls1_o, ls1_s, ls2_z, ls2_o, ls2_s, noL_i, noL_l, noL_r, isL_i, isL_l, isL_r, tk_z, tk_s, psh_n, psh_s, ent_e, entL_n, entL_c, cc_eq, cc_ne, cc_lt, cc_ge, cc_gt, cc_le, swt_n, swt_c, lsw_n, lsw_c, mPs, NSTR_e, akds, alens, cnts, arfs, inb_e, lcm_lt, lcm_gt, lcm_ge, lcm_le, lcm_eq, lcm_a, lcm_b, Int.reduceToNat, Nat.reduceDiv, Nat.reduceMod, Nat.reduceMul, Nat.reduceAdd, Nat.reduceSub, Nat.reduceLT, Nat.reduceLeDiff, Nat.reduceEqDiff, Int.reduceNeg, Int.reduceAdd, Nat.one_mul, Nat.zero_mul, Nat.add_zero, Nat.zero_add, if_true, if_false, eq_self, true_and, and_true, true_or, or_true, false_or, or_false, List.length_cons, List.length_nil, List.cons_append, List.nil_append, List.replicate_zero, List.replicate_succ, Nat.lt_irrefl, reduceCtorEq, Bool.false_eq_true, in32, in64, Int.reduceLE, Int.reduceLT, Int.reduceEq, Int.reduceNe, not_true_eq_false, not_false_eq_true, true_implies, false_implies, implies_true, false_and, and_false, and_self, b_X12_weightOf, r_X12_weightOf]
  (repeat' with_reducible first | apply And.intro | intro _)
  all_goals try omega
  · rename_i c
    refine q_debtOf hp ho ?_
    simp only [wp_c, st_iload, st_lload, st_aload, st_istore, st_lstore, st_astore, st_iinc, st_sipush, st_jsr_w, st_goto, st_jsr, st_goto_w, st_if_icmp, st_ifCond, st_iadd, st_isub, st_imul, st_idiv, st_irem, st_iand, st_ior, st_ixor, st_ishl, st_ishr, st_iushr, st_ladd, st_lsub, st_lmul, st_ldiv, st_lrem, st_land, st_lor, st_lshl, st_lshr, st_i2l, st_l2i, st_i2b, st_i2s, st_i2c, st_lcmp, st_dup, st_pop, st_dup2, st_pop2, st_getfield, st_getstatic, st_checkcast, st_instanceof, st_putfield, st_putstatic, st_dstore, st_iaload, st_baload, st_laload, st_aaload, st_iastore, st_bastore, st_lastore, st_arraylength, st_dcmpg, st_dcmpl, st_fcmpg, st_fcmpl, st_monitorenter, st_tableswitch, st_multianewarray, st_invokeinterface, st_ireturn, st_lreturn, st_return_, st_ldc, st_ldc_w, st_ldc2_w, st_freturn, st_invokevirtual, st_anewarray0, st_anewarray1, st_anewarray2, st_anewarray3, st_anewarray4, st_anewarray5, st_lookupswitch, popI_c, popL_c, popR_c, popV_c, getI_c, getL_c, getR_c, lg_z, lg_s, ls1_z, ls1_o, ls1_s, ls2_z, ls2_o, ls2_s, noL_i, noL_l, noL_r, isL_i, isL_l, isL_r, tk_z, tk_s, psh_n, psh_s, ent_e, entL_n, entL_c, cc_eq, cc_ne, cc_lt, cc_ge, cc_gt, cc_le, swt_n, swt_c, lsw_n, lsw_c, mPs, NSTR_e, akds, alens, cnts, arfs, inb_e, lcm_lt, lcm_gt, lcm_ge, lcm_le, lcm_eq, lcm_a, lcm_b, Int.reduceToNat, Nat.reduceDiv, Nat.reduceMod, Nat.reduceMul, Nat.reduceAdd, Nat.reduceSub, Nat.reduceLT, Nat.reduceLeDiff, Nat.reduceEqDiff, Int.reduceNeg, Int.reduceAdd, Nat.one_mul, Nat.zero_mul, Nat.add_zero, Nat.zero_add, if_true, if_false, eq_self, true_and, and_true, true_or, or_true, false_or, or_false, List.length_cons, List.length_nil, List.cons_append, List.nil_append, List.replicate_zero, List.replicate_succ, Nat.lt_irrefl, reduceCtorEq, Bool.false_eq_true, in32, in64, Int.reduceLE, Int.reduceLT, Int.reduceEq, Int.reduceNe, not_true_eq_false, not_false_eq_true, true_implies, false_implies, implies_true, false_and, and_false, and_self, b_X12_weightOf, r_X12_weightOf]
    refine q_papersOf hp (by rw [mu_k (by decide)]; exact ho) ?_
    simp only [wp_c, st_iload, st_lload, st_aload, st_istore, st_lstore, st_astore, st_iinc, st_sipush, st_jsr_w, st_goto, st_jsr, st_goto_w, st_if_icmp, st_ifCond, st_iadd, st_isub, st_imul, st_idiv, st_irem, st_iand, st_ior, st_ixor, st_ishl, st_ishr, st_iushr, st_ladd, st_lsub, st_lmul, st_ldiv, st_lrem, st_land, st_lor, st_lshl, st_lshr, st_i2l, st_l2i, st_i2b, st_i2s, st_i2c, st_lcmp, st_dup, st_pop, st_dup2, st_pop2, st_getfield, st_getstatic, st_checkcast, st_instanceof, st_putfield, st_putstatic, st_dstore, st_iaload, st_baload, st_laload, st_aaload, st_iastore, st_bastore, st_lastore, st_arraylength, st_dcmpg, st_dcmpl, st_fcmpg, st_fcmpl, st_monitorenter, st_tableswitch, st_multianewarray, st_invokeinterface, st_ireturn, st_lreturn, st_return_, st_ldc, st_ldc_w, st_ldc2_w, st_freturn, st_invokevirtual, st_anewarray0, st_anewarray1, st_anewarray2, st_anewarray3, st_anewarray4, st_anewarray5, st_lookupswitch, popI_c, popL_c, popR_c, popV_c, getI_c, getL_c, getR_c, lg_z, lg_s, ls1_z, ls1_o, ls1_s, ls2_z, ls2_o, ls2_s, noL_i, noL_l, noL_r, isL_i, isL_l, isL_r, tk_z, tk_s, psh_n, psh_s, ent_e, entL_n, entL_c, cc_eq, cc_ne, cc_lt, cc_ge, cc_gt, cc_le, swt_n, swt_c, lsw_n, lsw_c, mPs, NSTR_e, akds, alens, cnts, arfs, inb_e, lcm_lt, lcm_gt, lcm_ge, lcm_le, lcm_eq, lcm_a, lcm_b, Int.reduceToNat, Nat.reduceDiv, Nat.reduceMod, Nat.reduceMul, Nat.reduceAdd, Nat.reduceSub, Nat.reduceLT, Nat.reduceLeDiff, Nat.reduceEqDiff, Int.reduceNeg, Int.reduceAdd, Nat.one_mul, Nat.zero_mul, Nat.add_zero, Nat.zero_add, if_true, if_false, eq_self, true_and, and_true, true_or, or_true, false_or, or_false, List.length_cons, List.length_nil, List.cons_append, List.nil_append, List.replicate_zero, List.replicate_succ, Nat.lt_irrefl, reduceCtorEq, Bool.false_eq_true, in32, in64, Int.reduceLE, Int.reduceLT, Int.reduceEq, Int.reduceNe, not_true_eq_false, not_false_eq_true, true_implies, false_implies, implies_true, false_and, and_false, and_self, b_X12_weightOf, r_X12_weightOf]
    refine q_owedTo hp (by rw [mu_k (by decide), mu_k (by decide)]; exact ho) ?_
    simp only [wp_c, st_iload, st_lload, st_aload, st_istore, st_lstore, st_astore, st_iinc, st_sipush, st_jsr_w, st_goto, st_jsr, st_goto_w, st_if_icmp, st_ifCond, st_iadd, st_isub, st_imul, st_idiv, st_irem, st_iand, st_ior, st_ixor, st_ishl, st_ishr, st_iushr, st_ladd, st_lsub, st_lmul, st_ldiv, st_lrem, st_land, st_lor, st_lshl, st_lshr, st_i2l, st_l2i, st_i2b, st_i2s, st_i2c, st_lcmp, st_dup, st_pop, st_dup2, st_pop2, st_getfield, st_getstatic, st_checkcast, st_instanceof, st_putfield, st_putstatic, st_dstore, st_iaload, st_baload, st_laload, st_aaload, st_iastore, st_bastore, st_lastore, st_arraylength, st_dcmpg, st_dcmpl, st_fcmpg, st_fcmpl, st_monitorenter, st_tableswitch, st_multianewarray, st_invokeinterface, st_ireturn, st_lreturn, st_return_, st_ldc, st_ldc_w, st_ldc2_w, st_freturn, st_invokevirtual, st_anewarray0, st_anewarray1, st_anewarray2, st_anewarray3, st_anewarray4, st_anewarray5, st_lookupswitch, popI_c, popL_c, popR_c, popV_c, getI_c, getL_c, getR_c, lg_z, lg_s, ls1_z, ls1_o, ls1_s, ls2_z, ls2_o, ls2_s, noL_i, noL_l, noL_r, isL_i, isL_l, isL_r, tk_z, tk_s, psh_n, psh_s, ent_e, entL_n, entL_c, cc_eq, cc_ne, cc_lt, cc_ge, cc_gt, cc_le, swt_n, swt_c, lsw_n, lsw_c, mPs, NSTR_e, akds, alens, cnts, arfs, inb_e, lcm_lt, lcm_gt, lcm_ge, lcm_le, lcm_eq, lcm_a, lcm_b, Int.reduceToNat, Nat.reduceDiv, Nat.reduceMod, Nat.reduceMul, Nat.reduceAdd, Nat.reduceSub, Nat.reduceLT, Nat.reduceLeDiff, Nat.reduceEqDiff, Int.reduceNeg, Int.reduceAdd, Nat.one_mul, Nat.zero_mul, Nat.add_zero, Nat.zero_add, if_true, if_false, eq_self, true_and, and_true, true_or, or_true, false_or, or_false, List.length_cons, List.length_nil, List.cons_append, List.nil_append, List.replicate_zero, List.replicate_succ, Nat.lt_irrefl, reduceCtorEq, Bool.false_eq_true, in32, in64, Int.reduceLE, Int.reduceLT, Int.reduceEq, Int.reduceNe, not_true_eq_false, not_false_eq_true, true_implies, false_implies, implies_true, false_and, and_false, and_self, b_X12_weightOf, r_X12_weightOf]
    have c1 : σ 44 0 (4 + 0) = 1 := by simp only [Nat.add_zero]; omega
    obtain ⟨e1, e2, e3⟩ := h2 (by simpa using c1)
    have hlen := lawR_len c1
    simp only [Nat.add_zero] at hlen
    have hne := lawR_nil c1 (by simpa using e2)
    rcases h3 with h3 | ⟨h3, h4⟩
    · exact absurd h3 hne
    simp only [mu_k (show ¬ 44 = 49 by decide)]
    refine q_reckons (law := 0) (cs := lawR (σ 44 0) 0) (ws := wsW (σ 44 0) p) (F := σ 44 0 6) (ty := false) (Or.inl rfl) ?_ ?_ ?_ ?_ ?_ ?_ ?_ ?_ ?_
    · simp only [mu_k (show ¬ 44 = 49 by decide)]; exact ho
    · simp only [mu_k (show ¬ 44 = 49 by decide), hlen]
      show σ 44 0 8 = _
      omega
    · simp only [mu_k (show ¬ 44 = 49 by decide)]
      rfl
    · rw [hlen]; omega
    · intro i c' hc'
      simp only [mu_k (show ¬ 44 = 49 by decide)]
      have := lawR_get c1 hc'
      rw [← this]
      congr 1
      simp only [Nat.add_zero]
      omega
    · simpa using h3
    · intro i hi hm
      have := (h4 _ hm (by omega) (by omega)).1 rfl
      simp only [mu_k (show ¬ 44 = 49 by decide), mu_at]
      unfold wsW
      rcases i with _ | _ | _ | _ | _ | _ | i
      all_goals first | rfl | omega
    · intro c' _
      exact wsW_b ho hp c'
    · intro σ' he
      have hE : eqx [48, 49] σ σ' := (eqx_mu (eqx_mu (eqx_mu eqx.rf (by decide)) (by decide)) (by decide)).tr he
      have hK' := hK σ' hE
      unfold wgt at hK'
      rw [if_neg hne] at hK'
      have hv := (lval_ty (ws := wsW (σ 44 0) p) (cs := lawR (σ 44 0) 0) (fun c' _ => wsW_b ho hp c') h3).2
      unfold clW at hK'
      simp only [wp_c, st_iload, st_lload, st_aload, st_istore, st_lstore, st_astore, st_iinc, st_sipush, st_jsr_w, st_goto, st_jsr, st_goto_w, st_if_icmp, st_ifCond, st_iadd, st_isub, st_imul, st_idiv, st_irem, st_iand, st_ior, st_ixor, st_ishl, st_ishr, st_iushr, st_ladd, st_lsub, st_lmul, st_ldiv, st_lrem, st_land, st_lor, st_lshl, st_lshr, st_i2l, st_l2i, st_i2b, st_i2s, st_i2c, st_lcmp, st_dup, st_pop, st_dup2, st_pop2, st_getfield, st_getstatic, st_checkcast, st_instanceof, st_putfield, st_putstatic, st_dstore, st_iaload, st_baload, st_laload, st_aaload, st_iastore, st_bastore, st_lastore, st_arraylength, st_dcmpg, st_dcmpl, st_fcmpg, st_fcmpl, st_monitorenter, st_tableswitch, st_multianewarray, st_invokeinterface, st_ireturn, st_lreturn, st_return_, st_ldc, st_ldc_w, st_ldc2_w, st_freturn, st_invokevirtual, st_anewarray0, st_anewarray1, st_anewarray2, st_anewarray3, st_anewarray4, st_anewarray5, st_lookupswitch, popI_c, popL_c, popR_c, popV_c, getI_c, getL_c, getR_c, lg_z, lg_s, ls1_z, ls1_o, ls1_s, ls2_z, ls2_o, ls2_s, noL_i, noL_l, noL_r, isL_i, isL_l, isL_r, tk_z, tk_s, psh_n, psh_s, ent_e, entL_n, entL_c, cc_eq, cc_ne, cc_lt, cc_ge, cc_gt, cc_le, swt_n, swt_c, lsw_n, lsw_c, mPs, NSTR_e, akds, alens, cnts, arfs, inb_e, lcm_lt, lcm_gt, lcm_ge, lcm_le, lcm_eq, lcm_a, lcm_b, Int.reduceToNat, Nat.reduceDiv, Nat.reduceMod, Nat.reduceMul, Nat.reduceAdd, Nat.reduceSub, Nat.reduceLT, Nat.reduceLeDiff, Nat.reduceEqDiff, Int.reduceNeg, Int.reduceAdd, Nat.one_mul, Nat.zero_mul, Nat.add_zero, Nat.zero_add, if_true, if_false, eq_self, true_and, and_true, true_or, or_true, false_or, or_false, List.length_cons, List.length_nil, List.cons_append, List.nil_append, List.replicate_zero, List.replicate_succ, Nat.lt_irrefl, reduceCtorEq, Bool.false_eq_true, in32, in64, Int.reduceLE, Int.reduceLT, Int.reduceEq, Int.reduceNe, not_true_eq_false, not_false_eq_true, true_implies, false_implies, implies_true, false_and, and_false, and_self, b_X12_weightOf, r_X12_weightOf]
      (repeat' with_reducible first | apply And.intro | intro _)
      all_goals try omega
      all_goals refine Ki hK' ?_
      all_goals (repeat' split) <;> omega
  · rename_i c
    refine q_debtOf hp ho ?_
    simp only [wp_c, st_iload, st_lload, st_aload, st_istore, st_lstore, st_astore, st_iinc, st_sipush, st_jsr_w, st_goto, st_jsr, st_goto_w, st_if_icmp, st_ifCond, st_iadd, st_isub, st_imul, st_idiv, st_irem, st_iand, st_ior, st_ixor, st_ishl, st_ishr, st_iushr, st_ladd, st_lsub, st_lmul, st_ldiv, st_lrem, st_land, st_lor, st_lshl, st_lshr, st_i2l, st_l2i, st_i2b, st_i2s, st_i2c, st_lcmp, st_dup, st_pop, st_dup2, st_pop2, st_getfield, st_getstatic, st_checkcast, st_instanceof, st_putfield, st_putstatic, st_dstore, st_iaload, st_baload, st_laload, st_aaload, st_iastore, st_bastore, st_lastore, st_arraylength, st_dcmpg, st_dcmpl, st_fcmpg, st_fcmpl, st_monitorenter, st_tableswitch, st_multianewarray, st_invokeinterface, st_ireturn, st_lreturn, st_return_, st_ldc, st_ldc_w, st_ldc2_w, st_freturn, st_invokevirtual, st_anewarray0, st_anewarray1, st_anewarray2, st_anewarray3, st_anewarray4, st_anewarray5, st_lookupswitch, popI_c, popL_c, popR_c, popV_c, getI_c, getL_c, getR_c, lg_z, lg_s, ls1_z, ls1_o, ls1_s, ls2_z, ls2_o, ls2_s, noL_i, noL_l, noL_r, isL_i, isL_l, isL_r, tk_z, tk_s, psh_n, psh_s, ent_e, entL_n, entL_c, cc_eq, cc_ne, cc_lt, cc_ge, cc_gt, cc_le, swt_n, swt_c, lsw_n, lsw_c, mPs, NSTR_e, akds, alens, cnts, arfs, inb_e, lcm_lt, lcm_gt, lcm_ge, lcm_le, lcm_eq, lcm_a, lcm_b, Int.reduceToNat, Nat.reduceDiv, Nat.reduceMod, Nat.reduceMul, Nat.reduceAdd, Nat.reduceSub, Nat.reduceLT, Nat.reduceLeDiff, Nat.reduceEqDiff, Int.reduceNeg, Int.reduceAdd, Nat.one_mul, Nat.zero_mul, Nat.add_zero, Nat.zero_add, if_true, if_false, eq_self, true_and, and_true, true_or, or_true, false_or, or_false, List.length_cons, List.length_nil, List.cons_append, List.nil_append, List.replicate_zero, List.replicate_succ, Nat.lt_irrefl, reduceCtorEq, Bool.false_eq_true, in32, in64, Int.reduceLE, Int.reduceLT, Int.reduceEq, Int.reduceNe, not_true_eq_false, not_false_eq_true, true_implies, false_implies, implies_true, false_and, and_false, and_self, b_X12_weightOf, r_X12_weightOf]
    have hK' := hK σ eqx.rf
    unfold wgt at hK'
    rw [if_pos (by unfold lawR; rw [if_pos (by simpa using c)])] at hK'
    exact hK'
theorem q_mayCome {p k o : Int} (hp : 0 ≤ p ∧ p < 6) (hk : 0 ≤ k ∧ k < 8) (hoo : 0 ≤ o ∧ o ≤ 6) (ho : OkA (σ 44 0)) (hl : LawA (σ 44 0)) (hT : ∀ σ', eqx [48, 49] σ σ' → mMay (σ 44 0) (lawR (σ 44 0) 0) (lawR (σ 44 0) 1) p k o → K (some (.inl 1)) σ') (hF : ∀ σ', eqx [48, 49] σ σ' → ¬ mMay (σ 44 0) (lawR (σ 44 0) 0) (lawR (σ 44 0) 1) p k o → K (some (.inl 0)) σ') : Ev (d + 4) 216 [mo, .inl p, .inl k, .inl o] σ K := by
  obtain ⟨h1, h2, h3⟩ := hl 1 (by decide)
  simp only [Nat.reduceAdd] at h1 h2
  have b4 := day_b ho
  refine e_X12_mayCome (Nat.le_of_ble_eq_true rfl) ?_
  simp only [wp_c, st_iload, st_lload, st_aload, st_istore, st_lstore, st_astore, st_iinc, st_sipush, st_jsr_w, st_goto, st_jsr, st_goto_w, st_if_icmp, st_ifCond, st_iadd, st_isub, st_imul, st_idiv, st_irem, st_iand, st_ior, st_ixor, st_ishl, st_ishr, st_iushr, st_ladd, st_lsub, st_lmul, st_ldiv, st_lrem, st_land, st_lor, st_lshl, st_lshr, st_i2l, st_l2i, st_i2b, st_i2s, st_i2c, st_lcmp, st_dup, st_pop, st_dup2, st_pop2, st_getfield, st_getstatic, st_checkcast, st_instanceof, st_putfield, st_putstatic, st_dstore, st_iaload, st_baload, st_laload, st_aaload, st_iastore, st_bastore, st_lastore, st_arraylength, st_dcmpg, st_dcmpl, st_fcmpg, st_fcmpl, st_monitorenter, st_tableswitch, st_multianewarray, st_invokeinterface, st_ireturn, st_lreturn, st_return_, st_ldc, st_ldc_w, st_ldc2_w, st_freturn, st_invokevirtual, st_anewarray0, st_anewarray1, st_anewarray2, st_anewarray3, st_anewarray4, st_anewarray5, st_lookupswitch, popI_c, popL_c, popR_c, popV_c, getI_c, getL_c, getR_c, lg_z, lg_s, ls1_z, ls1_o, ls1_s, ls2_z, ls2_o, ls2_s, noL_i, noL_l, noL_r, isL_i, isL_l, isL_r, tk_z, tk_s, psh_n, psh_s, ent_e, entL_n, entL_c, cc_eq, cc_ne, cc_lt, cc_ge, cc_gt, cc_le, swt_n, swt_c, lsw_n, lsw_c, mPs, NSTR_e, akds, alens, cnts, arfs, inb_e, lcm_lt, lcm_gt, lcm_ge, lcm_le, lcm_eq, lcm_a, lcm_b, Int.reduceToNat, Nat.reduceDiv, Nat.reduceMod, Nat.reduceMul, Nat.reduceAdd, Nat.reduceSub, Nat.reduceLT, Nat.reduceLeDiff, Nat.reduceEqDiff, Int.reduceNeg, Int.reduceAdd, Nat.one_mul, Nat.zero_mul, Nat.add_zero, Nat.zero_add, if_true, if_false, eq_self, true_and, and_true, true_or, or_true, false_or, or_false, List.length_cons, List.length_nil, List.cons_append, List.nil_append, List.replicate_zero, List.replicate_succ, Nat.lt_irrefl, reduceCtorEq, Bool.false_eq_true, in32, in64, Int.reduceLE, Int.reduceLT, Int.reduceEq, Int.reduceNe, not_true_eq_false, not_false_eq_true, true_implies, false_implies, implies_true, false_and, and_false, and_self, b_X12_mayCome, r_X12_mayCome]
  (repeat' with_reducible first | apply And.intro | intro _)
  all_goals try omega
  · rename_i c
    refine q_weightOf hp ho hl (fun σ1 he1 => ?_)
    have e44 : σ1 44 = σ 44 := he1 44 (by decide)
    have hwb := wgt_le ho (lw := lawR (σ 44 0) 0) hp
    generalize hwg : wgt (σ 44 0) (lawR (σ 44 0) 0) p = w at hwb
    simp only [wp_c, st_iload, st_lload, st_aload, st_istore, st_lstore, st_astore, st_iinc, st_sipush, st_jsr_w, st_goto, st_jsr, st_goto_w, st_if_icmp, st_ifCond, st_iadd, st_isub, st_imul, st_idiv, st_irem, st_iand, st_ior, st_ixor, st_ishl, st_ishr, st_iushr, st_ladd, st_lsub, st_lmul, st_ldiv, st_lrem, st_land, st_lor, st_lshl, st_lshr, st_i2l, st_l2i, st_i2b, st_i2s, st_i2c, st_lcmp, st_dup, st_pop, st_dup2, st_pop2, st_getfield, st_getstatic, st_checkcast, st_instanceof, st_putfield, st_putstatic, st_dstore, st_iaload, st_baload, st_laload, st_aaload, st_iastore, st_bastore, st_lastore, st_arraylength, st_dcmpg, st_dcmpl, st_fcmpg, st_fcmpl, st_monitorenter, st_tableswitch, st_multianewarray, st_invokeinterface, st_ireturn, st_lreturn, st_return_, st_ldc, st_ldc_w, st_ldc2_w, st_freturn, st_invokevirtual, st_anewarray0, st_anewarray1, st_anewarray2, st_anewarray3, st_anewarray4, st_anewarray5, st_lookupswitch, popI_c, popL_c, popR_c, popV_c, getI_c, getL_c, getR_c, lg_z, lg_s, ls1_z, ls1_o, ls1_s, ls2_z, ls2_o, ls2_s, noL_i, noL_l, noL_r, isL_i, isL_l, isL_r, tk_z, tk_s, psh_n, psh_s, ent_e, entL_n, entL_c, cc_eq, cc_ne, cc_lt, cc_ge, cc_gt, cc_le, swt_n, swt_c, lsw_n, lsw_c, mPs, NSTR_e, akds, alens, cnts, arfs, inb_e, lcm_lt, lcm_gt, lcm_ge, lcm_le, lcm_eq, lcm_a, lcm_b, Int.reduceToNat, Nat.reduceDiv, Nat.reduceMod, Nat.reduceMul, Nat.reduceAdd, Nat.reduceSub, Nat.reduceLT, Nat.reduceLeDiff, Nat.reduceEqDiff, Int.reduceNeg, Int.reduceAdd, Nat.one_mul, Nat.zero_mul, Nat.add_zero, Nat.zero_add, if_true, if_false, eq_self, true_and, and_true, true_or, or_true, false_or, or_false, List.length_cons, List.length_nil, List.cons_append, List.nil_append, List.replicate_zero, List.replicate_succ, Nat.lt_irrefl, reduceCtorEq, Bool.false_eq_true, in32, in64, Int.reduceLE, Int.reduceLT, Int.reduceEq, Int.reduceNe, not_true_eq_false, not_false_eq_true, true_implies, false_implies, implies_true, false_and, and_false, and_self, b_X12_mayCome, r_X12_mayCome]
    have c1 : σ 44 0 (4 + 1) = 1 := by simp only [Nat.reduceAdd]; omega
    obtain ⟨e1, e2, e3⟩ := h2 (by simpa using c1)
    have hlen := lawR_len c1
    simp only [Nat.reduceAdd] at hlen
    have hne := lawR_nil c1 (by simpa using e2)
    rcases h3 with h3 | ⟨h3, h4⟩
    · exact absurd h3 hne
    refine q_reckons (law := 1) (cs := lawR (σ 44 0) 1) (ws := wsL (σ 44 0) w p k o) (F := σ 44 0 7) (ty := true) (Or.inr rfl) ?_ ?_ ?_ ?_ ?_ ?_ ?_ ?_ ?_
    · simp only [mu_k (show ¬ 44 = 49 by decide), e44]; exact ho
    · simp only [mu_k (show ¬ 44 = 49 by decide), hlen, e44]
      show σ 44 0 9 = _
      omega
    · simp only [mu_k (show ¬ 44 = 49 by decide), e44]
      rfl
    · rw [hlen]; omega
    · intro i c' hc'
      simp only [mu_k (show ¬ 44 = 49 by decide), e44]
      have := lawR_get c1 hc'
      rw [← this]
      congr 1
      simp only [Nat.reduceAdd]
      omega
    · simpa using h3
    · intro i hi hm
      have := (h4 _ hm (by omega) (by omega)).2 rfl
      simp only [mu_k (show ¬ 44 = 49 by decide), mu_at, e44]
      unfold wsL
      rcases i with _ | _ | _ | _ | _ | _ | _ | _ | _ | i
      all_goals first | rfl | omega
    · intro c' _
      exact wsL_b ho hwb hp hk hoo c'
    · intro σ' he
      have hE : eqx [48, 49] σ σ' := he1.tr ((eqx_mu (eqx_mu (eqx_mu eqx.rf (by decide)) (by decide)) (by decide)).tr he)
      have hv := (lval_ty (ws := wsL (σ 44 0) w p k o) (cs := lawR (σ 44 0) 1) (fun c' _ => wsL_b ho hwb hp hk hoo c') h3).2
      have hT' := hT σ' hE
      have hF' := hF σ' hE
      unfold mMay at hT' hF'
      rw [hwg] at hT' hF'
      simp only [wp_c, st_iload, st_lload, st_aload, st_istore, st_lstore, st_astore, st_iinc, st_sipush, st_jsr_w, st_goto, st_jsr, st_goto_w, st_if_icmp, st_ifCond, st_iadd, st_isub, st_imul, st_idiv, st_irem, st_iand, st_ior, st_ixor, st_ishl, st_ishr, st_iushr, st_ladd, st_lsub, st_lmul, st_ldiv, st_lrem, st_land, st_lor, st_lshl, st_lshr, st_i2l, st_l2i, st_i2b, st_i2s, st_i2c, st_lcmp, st_dup, st_pop, st_dup2, st_pop2, st_getfield, st_getstatic, st_checkcast, st_instanceof, st_putfield, st_putstatic, st_dstore, st_iaload, st_baload, st_laload, st_aaload, st_iastore, st_bastore, st_lastore, st_arraylength, st_dcmpg, st_dcmpl, st_fcmpg, st_fcmpl, st_monitorenter, st_tableswitch, st_multianewarray, st_invokeinterface, st_ireturn, st_lreturn, st_return_, st_ldc, st_ldc_w, st_ldc2_w, st_freturn, st_invokevirtual, st_anewarray0, st_anewarray1, st_anewarray2, st_anewarray3, st_anewarray4, st_anewarray5, st_lookupswitch, popI_c, popL_c, popR_c, popV_c, getI_c, getL_c, getR_c, lg_z, lg_s, ls1_z, ls1_o, ls1_s, ls2_z, ls2_o, ls2_s, noL_i, noL_l, noL_r, isL_i, isL_l, isL_r, tk_z, tk_s, psh_n, psh_s, ent_e, entL_n, entL_c, cc_eq, cc_ne, cc_lt, cc_ge, cc_gt, cc_le, swt_n, swt_c, lsw_n, lsw_c, mPs, NSTR_e, akds, alens, cnts, arfs, inb_e, lcm_lt, lcm_gt, lcm_ge, lcm_le, lcm_eq, lcm_a, lcm_b, Int.reduceToNat, Nat.reduceDiv, Nat.reduceMod, Nat.reduceMul, Nat.reduceAdd, Nat.reduceSub, Nat.reduceLT, Nat.reduceLeDiff, Nat.reduceEqDiff, Int.reduceNeg, Int.reduceAdd, Nat.one_mul, Nat.zero_mul, Nat.add_zero, Nat.zero_add, if_true, if_false, eq_self, true_and, and_true, true_or, or_true, false_or, or_false, List.length_cons, List.length_nil, List.cons_append, List.nil_append, List.replicate_zero, List.replicate_succ, Nat.lt_irrefl, reduceCtorEq, Bool.false_eq_true, in32, in64, Int.reduceLE, Int.reduceLT, Int.reduceEq, Int.reduceNe, not_true_eq_false, not_false_eq_true, true_implies, false_implies, implies_true, false_and, and_false, and_self, b_X12_mayCome, r_X12_mayCome]
      (repeat' with_reducible first | apply And.intro | intro _)
      all_goals try omega
      · exact hF' (by rintro (x | x); exact hne x; omega)
      · exact hT' (Or.inr (by omega))
  · rename_i c
    exact hT σ eqx.rf (Or.inl (by unfold lawR; rw [if_pos (by simpa using c)]))
end WEIGH
