/-! 62: the class: a world takes another one; told deeds judged -/
/-- what a call of the class may change at most -/
def frw (σ σ' : Mem) : Prop := eqx [0, 1, 2, 6, 7, 9, 10, 16, 17, 18, 19, 27, 28, 29, 30, 31, 32, 33, 34, 35, 37, 38, 39] σ σ' ∧ ∀ n K : Nat, (n = 2 ∨ n = 3) → (K = 7 ∨ K = 10 ∨ K = 33 ∨ K = 34 ∨ K = 35) → σ' K n = σ K n
theorem frw.rf {σ : Mem} : frw σ σ := ⟨eqx.rf, fun _ _ _ _ => rfl⟩
theorem frw.tr {σ σ1 σ2 : Mem} (h1 : frw σ σ1) (h2 : frw σ1 σ2) : frw σ σ2 := ⟨h1.1.tr h2.1, fun n K a b => (h2.2 n K a b).trans (h1.2 n K a b)⟩
theorem frm.w {σ σ' : Mem} (h : frm σ σ') : frw σ σ' := by
  refine ⟨h.1.wd (by decide), fun n K a b => ?_⟩
  rcases b with rfl | rfl | b
  · exact h.2 n 7 (by omega) (by omega) (Or.inl rfl)
  · rw [h.1 10 (by decide)]
  · exact h.2 n K (by omega) (by omega) (Or.inr b)
theorem frw.i {L M : List Nat} {w : Nat} {σ σ' : Mem} (h : eqi L M w σ σ') (hL : ∀ K ∈ L, K ∈ [0, 1, 2, 6, 9, 16, 17, 18, 19, 27, 28, 29, 30, 31, 32, 37, 38, 39]) (hM : ∀ K ∈ M, K ∈ [0, 1, 2, 6, 7, 9, 10, 16, 17, 18, 19, 27, 28, 29, 30, 31, 32, 33, 34, 35, 37, 38, 39]) (hw : w < 2 ∨ 4 ≤ w) : frw σ σ' := by
  refine ⟨fun K hK => ?_, fun n K a b => ?_⟩
  · funext i
    refine h K i (fun x => ?_) (fun x => hK (hM K x.1))
    have := hL K x
    simp only [List.mem_cons, List.not_mem_nil, or_false] at this hK
    omega
  · refine h K n (fun x => ?_) (fun x => by omega)
    have := hL K x
    simp only [List.mem_cons, List.not_mem_nil, or_false] at this
    omega
theorem frw.x {L : List Nat} {σ σ' : Mem} (h : eqx L σ σ') (hL : ∀ K ∈ L, K ∈ [0, 1, 2, 6, 9, 16, 17, 18, 19, 27, 28, 29, 30, 31, 32, 37, 38, 39]) : frw σ σ' := frw.i (L := L) (M := []) (w := 0) (h.i (fun _ x => x)) hL (by decide) (Or.inl (by decide))
theorem V_w {σ σ' : Mem} {n m : Nat} {b : BV} (hp : pln σ' n = pln σ m) (h3 : σ' 3 = σ 3) (h21 : σ' 21 = σ 21) (hs : ∀ j : Nat, j < 54 → stt σ' n j = stt σ m j) : V σ' n b = V σ m b := by
  funext j
  by_cases c : 18 ≤ j ∧ j < 72
  · have e : j = 18 + (j - 18) := by omega
    rw [e, V_stt (by omega), V_stt (by omega), hs _ (by omega)]
  · unfold V
    rw [hp, h3, h21]
    by_cases c2 : j < 18
    · simp only [if_pos c2]
    · simp only [if_neg c2, if_neg (show ¬ j = 18 by omega), if_neg (show ¬ j = 19 by omega), if_neg (show ¬ j = 20 by omega), if_neg (show ¬ j = 21 by omega), if_neg (show ¬ j < 30 by omega), if_neg (show ¬ j < 36 by omega), if_neg (show ¬ j < 72 by omega)]
/-- a world that another one's change leaves alone -/
theorem WI_g {σ σ' : Mem} {L M : List Nat} {w u : Nat} {b : BV} {lw ll : List Int} (h : eqi L M u σ σ') (hL : 3 ∉ L ∧ 7 ∉ L ∧ 10 ∉ L ∧ 21 ∉ L ∧ 33 ∉ L ∧ 34 ∉ L ∧ 35 ∉ L) (hL2 : 24 ∉ L ∧ 25 ∉ L ∧ 60 ∉ L ∧ 61 ∉ L) (hM : 3 ∉ M ∧ 21 ∉ M ∧ 24 ∉ M ∧ 25 ∉ M ∧ 60 ∉ M ∧ 61 ∉ M) (hw : ¬ w = u) (hi : WI σ w b lw ll) : WI σ' w b lw ll := by
  obtain ⟨h1, h2, h3, h4, h5, h6, h7⟩ := hi
  have e10 := h 10 w hL.2.2.1 (fun x => hw x.2)
  have e24 := h.k hL2.1 hM.2.2.1
  have e25 := h.k hL2.2.1 hM.2.2.2.1
  have e60 := h.k hL2.2.2.1 hM.2.2.2.2.1
  have e61 := h.k hL2.2.2.2 hM.2.2.2.2.2
  have e : pln σ' w = pln σ w := by unfold pln; rw [e10]
  refine ⟨h1, ?_, ?_, ?_, ?_, h6, h7⟩
  · rw [e, e60]; exact h2
  · rw [V_i h hL ⟨hM.1, hM.2.1⟩ hw]; exact h3
  · unfold lawC
    rw [e, e24, e61]
    exact h4
  · unfold lawC
    rw [e, e25, e61]
    exact h5
theorem tel_e {lw ll : List Int} {f : Int → Int} : ∀ (n : Nat) (k : Int) (a : BV), (tel lw ll f n k a).2.1 = 0 ↔ (tel lw ll f n k a).1 = k + n := by
  intro n
  induction n with
  | zero => intro k a; exact ⟨fun _ => by show k = k + 0; omega, fun _ => rfl⟩
  | succ n ih =>
    intro k a
    unfold tel
    split
    · rw [ih]
      push_cast
      constructor <;> (intro h; omega)
    · rename_i c
      refine ⟨fun h => absurd h c, fun h => ?_⟩
      have h : k = k + ((n + 1 : Nat) : Int) := h
      omega
section TAKE
variable {d : Nat} {σ : Mem} {a b : BV} {lw ll : List Int} {K : Option AV → Mem → Prop}
theorem c_Wtake {n m : Nat} (hn : n < 4) (hnm : ¬ n = m) (hi : WI σ m b lw ll) (hK : ∀ σ', eqi [] [7, 10, 33, 34, 35] n σ σ' → V σ' n b = V σ m b → WI σ' n b lw ll → K none σ') : Ev (d + 2) 97 [wo n, wo m] σ K := by
  have hm := hi.1
  refine e_X10_take (Nat.le_of_ble_eq_true rfl) ?_
  simp only [wp_c, st_iload, st_lload, st_aload, st_istore, st_lstore, st_astore, st_iinc, st_sipush, st_jsr_w, st_goto, st_jsr, st_goto_w, st_if_icmp, st_ifCond, st_iadd, st_isub, st_imul, st_idiv, st_irem, st_iand, st_ior, st_ixor, st_ishl, st_ishr, st_iushr, st_ladd, st_lsub, st_lmul, st_ldiv, st_lrem, st_land, st_lor, st_lshl, st_lshr, st_i2l, st_l2i, st_i2b, st_i2s, st_i2c, st_lcmp, st_dup, st_pop, st_dup2, st_pop2, st_getfield, st_getstatic, st_checkcast, st_instanceof, st_putfield, st_putstatic, st_dstore, st_iaload, st_baload, st_laload, st_aaload, st_iastore, st_bastore, st_lastore, st_arraylength, st_dcmpg, st_dcmpl, st_fcmpg, st_fcmpl, st_monitorenter, st_tableswitch, st_multianewarray, st_invokeinterface, st_ireturn, st_lreturn, st_return_, st_ldc, st_ldc_w, st_ldc2_w, st_freturn, st_invokevirtual, st_anewarray0, st_anewarray1, st_anewarray2, st_anewarray3, st_anewarray4, st_anewarray5, st_lookupswitch, popI_c, popL_c, popR_c, popV_c, getI_c, getL_c, getR_c, lg_z, lg_s, ls1_z, ls1_o, ls1_s, ls2_z, ls2_o, ls2_s, noL_i, noL_l, noL_r, isL_i, isL_l, isL_r, tk_z, tk_s, psh_n, psh_s, ent_e, entL_n, entL_c, cc_eq, cc_ne, cc_lt, cc_ge, cc_gt, cc_le, swt_n, swt_c, lsw_n, lsw_c, mPs, NSTR_e, akds, alens, cnts, arfs, inb_e, lcm_lt, lcm_gt, lcm_ge, lcm_le, lcm_eq, lcm_a, lcm_b, Int.reduceToNat, Nat.reduceDiv, Nat.reduceMod, Nat.reduceMul, Nat.reduceAdd, Nat.reduceSub, Nat.reduceLT, Nat.reduceLeDiff, Nat.reduceEqDiff, Int.reduceNeg, Int.reduceAdd, Nat.one_mul, Nat.zero_mul, Nat.add_zero, Nat.zero_add, if_true, if_false, eq_self, true_and, and_true, true_or, or_true, false_or, or_false, List.length_cons, List.length_nil, List.cons_append, List.nil_append, List.replicate_zero, List.replicate_succ, Nat.lt_irrefl, reduceCtorEq, Bool.false_eq_true, in32, in64, Int.reduceLE, Int.reduceLT, Int.reduceEq, Int.reduceNe, not_true_eq_false, not_false_eq_true, true_implies, false_implies, implies_true, false_and, and_false, and_self, b_X10_take, r_X10_take]
  (repeat' with_reducible first | apply And.intro | intro _)
  all_goals try omega
  refine c_take (by omega) (by omega) (fun σ2 x2 g2 => ?_)
  have x1 : eqi [] [7, 10, 33, 34, 35] n σ (mu σ 10 n 3 ((σ 10 m 3).toNat : Int)) := eqi_mu eqi.rf (by decide)
  have x3 := x1.tr (x2.wd (by decide) (M2 := [7, 10, 33, 34, 35]) (by decide))
  have hp : pln σ2 n = pln σ m := by
    unfold pln
    rw [x2.k (K := 10) (by decide) (by decide), mu_at, if_pos rfl, Int.toNat_natCast]
  have hv : V σ2 n b = V σ m b := by
    refine V_w hp (x3.k (by decide) (by decide)) (x3.k (by decide) (by decide)) (fun j hj => ?_)
    rw [g2 j hj]
    exact stt_i x1 (by decide) (fun e => hnm e.symm) j
  simp only [wp_c, st_iload, st_lload, st_aload, st_istore, st_lstore, st_astore, st_iinc, st_sipush, st_jsr_w, st_goto, st_jsr, st_goto_w, st_if_icmp, st_ifCond, st_iadd, st_isub, st_imul, st_idiv, st_irem, st_iand, st_ior, st_ixor, st_ishl, st_ishr, st_iushr, st_ladd, st_lsub, st_lmul, st_ldiv, st_lrem, st_land, st_lor, st_lshl, st_lshr, st_i2l, st_l2i, st_i2b, st_i2s, st_i2c, st_lcmp, st_dup, st_pop, st_dup2, st_pop2, st_getfield, st_getstatic, st_checkcast, st_instanceof, st_putfield, st_putstatic, st_dstore, st_iaload, st_baload, st_laload, st_aaload, st_iastore, st_bastore, st_lastore, st_arraylength, st_dcmpg, st_dcmpl, st_fcmpg, st_fcmpl, st_monitorenter, st_tableswitch, st_multianewarray, st_invokeinterface, st_ireturn, st_lreturn, st_return_, st_ldc, st_ldc_w, st_ldc2_w, st_freturn, st_invokevirtual, st_anewarray0, st_anewarray1, st_anewarray2, st_anewarray3, st_anewarray4, st_anewarray5, st_lookupswitch, popI_c, popL_c, popR_c, popV_c, getI_c, getL_c, getR_c, lg_z, lg_s, ls1_z, ls1_o, ls1_s, ls2_z, ls2_o, ls2_s, noL_i, noL_l, noL_r, isL_i, isL_l, isL_r, tk_z, tk_s, psh_n, psh_s, ent_e, entL_n, entL_c, cc_eq, cc_ne, cc_lt, cc_ge, cc_gt, cc_le, swt_n, swt_c, lsw_n, lsw_c, mPs, NSTR_e, akds, alens, cnts, arfs, inb_e, lcm_lt, lcm_gt, lcm_ge, lcm_le, lcm_eq, lcm_a, lcm_b, Int.reduceToNat, Nat.reduceDiv, Nat.reduceMod, Nat.reduceMul, Nat.reduceAdd, Nat.reduceSub, Nat.reduceLT, Nat.reduceLeDiff, Nat.reduceEqDiff, Int.reduceNeg, Int.reduceAdd, Nat.one_mul, Nat.zero_mul, Nat.add_zero, Nat.zero_add, if_true, if_false, eq_self, true_and, and_true, true_or, or_true, false_or, or_false, List.length_cons, List.length_nil, List.cons_append, List.nil_append, List.replicate_zero, List.replicate_succ, Nat.lt_irrefl, reduceCtorEq, Bool.false_eq_true, in32, in64, Int.reduceLE, Int.reduceLT, Int.reduceEq, Int.reduceNe, not_true_eq_false, not_false_eq_true, true_implies, false_implies, implies_true, false_and, and_false, and_self, b_X10_take, r_X10_take]
  (repeat' with_reducible first | apply And.intro | intro _)
  all_goals try omega
  all_goals refine hK σ2 x3 hv ?_
  all_goals obtain ⟨h1, h2, h3, h4, h5, h6, h7⟩ := hi
  all_goals refine ⟨hn, ?_, by rw [hv]; exact h3, ?_, ?_, h6, h7⟩
  all_goals first | (rw [hp, x3.k (K := 60) (by decide) (by decide)]; exact h2) | (unfold lawC; rw [hp, x3.k (K := 24) (by decide) (by decide), x3.k (K := 61) (by decide) (by decide)]; exact h4) | (unfold lawC; rw [hp, x3.k (K := 25) (by decide) (by decide), x3.k (K := 61) (by decide) (by decide)]; exact h5)
theorem c_judge {t x : Int} (ht : in32 t) (hx : in32 x) (hm : ∀ i : Nat, i < 4 → (σ 8 i 1 = 0 ∨ σ 8 i 1 = 1) ∧ 0 ≤ σ 8 i 3 ∧ σ 8 i 3 ≤ 40) (hn : ∀ (i : Nat) (k : Int), i < 4 → 0 ≤ k → k < 40 → in64 (σ 36 i k.toNat)) (hi : WI σ 0 b lw ll) (hpa : PI σ a) (hd : V σ 0 b 18 + 40 < 1000000000)
    (h2 : ¬ (0 ≤ x ∧ x ≤ 3) ∨ ¬ (0 ≤ t ∧ t < 4) → K (some (.inl (-2))) σ) (h6 : 0 ≤ x ∧ x ≤ 3 → 0 ≤ t ∧ t < 4 → σ 8 t.toNat 1 = 1 → K (some (.inl (-6))) σ)
    (h0 : 0 ≤ x ∧ x ≤ 3 → 0 ≤ t ∧ t < 4 → σ 8 t.toNat 1 = 0 → ∀ σ', frw σ σ' → V σ' 0 b = V σ 0 b → WI σ' 0 b lw ll → PI σ' a → K (some (.inl (jdg (tel lw ll (fun k => σ 36 t.toNat k.toNat) (σ 8 t.toNat 3).toNat 0 (V σ 0 b)) x))) σ') : Ev (d + 8) 124 [bo, .inl t, .inl x] σ K := by
  have hx' := hx
  unfold in32 at hx'
  refine e_X11_judge (Nat.le_of_ble_eq_true rfl) ?_
  simp only [wp_c, st_iload, st_lload, st_aload, st_istore, st_lstore, st_astore, st_iinc, st_sipush, st_jsr_w, st_goto, st_jsr, st_goto_w, st_if_icmp, st_ifCond, st_iadd, st_isub, st_imul, st_idiv, st_irem, st_iand, st_ior, st_ixor, st_ishl, st_ishr, st_iushr, st_ladd, st_lsub, st_lmul, st_ldiv, st_lrem, st_land, st_lor, st_lshl, st_lshr, st_i2l, st_l2i, st_i2b, st_i2s, st_i2c, st_lcmp, st_dup, st_pop, st_dup2, st_pop2, st_getfield, st_getstatic, st_checkcast, st_instanceof, st_putfield, st_putstatic, st_dstore, st_iaload, st_baload, st_laload, st_aaload, st_iastore, st_bastore, st_lastore, st_arraylength, st_dcmpg, st_dcmpl, st_fcmpg, st_fcmpl, st_monitorenter, st_tableswitch, st_multianewarray, st_invokeinterface, st_ireturn, st_lreturn, st_return_, st_ldc, st_ldc_w, st_ldc2_w, st_freturn, st_invokevirtual, st_anewarray0, st_anewarray1, st_anewarray2, st_anewarray3, st_anewarray4, st_anewarray5, st_lookupswitch, popI_c, popL_c, popR_c, popV_c, getI_c, getL_c, getR_c, lg_z, lg_s, ls1_z, ls1_o, ls1_s, ls2_z, ls2_o, ls2_s, noL_i, noL_l, noL_r, isL_i, isL_l, isL_r, tk_z, tk_s, psh_n, psh_s, ent_e, entL_n, entL_c, cc_eq, cc_ne, cc_lt, cc_ge, cc_gt, cc_le, swt_n, swt_c, lsw_n, lsw_c, mPs, NSTR_e, akds, alens, cnts, arfs, inb_e, lcm_lt, lcm_gt, lcm_ge, lcm_le, lcm_eq, lcm_a, lcm_b, Int.reduceToNat, Nat.reduceDiv, Nat.reduceMod, Nat.reduceMul, Nat.reduceAdd, Nat.reduceSub, Nat.reduceLT, Nat.reduceLeDiff, Nat.reduceEqDiff, Int.reduceNeg, Int.reduceAdd, Nat.one_mul, Nat.zero_mul, Nat.add_zero, Nat.zero_add, if_true, if_false, eq_self, true_and, and_true, true_or, or_true, false_or, or_false, List.length_cons, List.length_nil, List.cons_append, List.nil_append, List.replicate_zero, List.replicate_succ, Nat.lt_irrefl, reduceCtorEq, Bool.false_eq_true, in32, in64, Int.reduceLE, Int.reduceLT, Int.reduceEq, Int.reduceNe, not_true_eq_false, not_false_eq_true, true_implies, false_implies, implies_true, false_and, and_false, and_self, b_X11_judge, r_X11_judge]
  (repeat' with_reducible first | apply And.intro | intro _)
  all_goals try omega
  refine c_isTray ht (fun c => ?_) (fun c => ?_)
  rotate_left 1
  · simp only [wp_c, st_iload, st_lload, st_aload, st_istore, st_lstore, st_astore, st_iinc, st_sipush, st_jsr_w, st_goto, st_jsr, st_goto_w, st_if_icmp, st_ifCond, st_iadd, st_isub, st_imul, st_idiv, st_irem, st_iand, st_ior, st_ixor, st_ishl, st_ishr, st_iushr, st_ladd, st_lsub, st_lmul, st_ldiv, st_lrem, st_land, st_lor, st_lshl, st_lshr, st_i2l, st_l2i, st_i2b, st_i2s, st_i2c, st_lcmp, st_dup, st_pop, st_dup2, st_pop2, st_getfield, st_getstatic, st_checkcast, st_instanceof, st_putfield, st_putstatic, st_dstore, st_iaload, st_baload, st_laload, st_aaload, st_iastore, st_bastore, st_lastore, st_arraylength, st_dcmpg, st_dcmpl, st_fcmpg, st_fcmpl, st_monitorenter, st_tableswitch, st_multianewarray, st_invokeinterface, st_ireturn, st_lreturn, st_return_, st_ldc, st_ldc_w, st_ldc2_w, st_freturn, st_invokevirtual, st_anewarray0, st_anewarray1, st_anewarray2, st_anewarray3, st_anewarray4, st_anewarray5, st_lookupswitch, popI_c, popL_c, popR_c, popV_c, getI_c, getL_c, getR_c, lg_z, lg_s, ls1_z, ls1_o, ls1_s, ls2_z, ls2_o, ls2_s, noL_i, noL_l, noL_r, isL_i, isL_l, isL_r, tk_z, tk_s, psh_n, psh_s, ent_e, entL_n, entL_c, cc_eq, cc_ne, cc_lt, cc_ge, cc_gt, cc_le, swt_n, swt_c, lsw_n, lsw_c, mPs, NSTR_e, akds, alens, cnts, arfs, inb_e, lcm_lt, lcm_gt, lcm_ge, lcm_le, lcm_eq, lcm_a, lcm_b, Int.reduceToNat, Nat.reduceDiv, Nat.reduceMod, Nat.reduceMul, Nat.reduceAdd, Nat.reduceSub, Nat.reduceLT, Nat.reduceLeDiff, Nat.reduceEqDiff, Int.reduceNeg, Int.reduceAdd, Nat.one_mul, Nat.zero_mul, Nat.add_zero, Nat.zero_add, if_true, if_false, eq_self, true_and, and_true, true_or, or_true, false_or, or_false, List.length_cons, List.length_nil, List.cons_append, List.nil_append, List.replicate_zero, List.replicate_succ, Nat.lt_irrefl, reduceCtorEq, Bool.false_eq_true, in32, in64, Int.reduceLE, Int.reduceLT, Int.reduceEq, Int.reduceNe, not_true_eq_false, not_false_eq_true, true_implies, false_implies, implies_true, false_and, and_false, and_self, b_X11_judge, r_X11_judge]
    (repeat' with_reducible first | apply And.intro | intro _)
    all_goals try omega
    all_goals exact h2 (Or.inr c)
  have hmt := hm t.toNat (by omega)
  simp only [wp_c, st_iload, st_lload, st_aload, st_istore, st_lstore, st_astore, st_iinc, st_sipush, st_jsr_w, st_goto, st_jsr, st_goto_w, st_if_icmp, st_ifCond, st_iadd, st_isub, st_imul, st_idiv, st_irem, st_iand, st_ior, st_ixor, st_ishl, st_ishr, st_iushr, st_ladd, st_lsub, st_lmul, st_ldiv, st_lrem, st_land, st_lor, st_lshl, st_lshr, st_i2l, st_l2i, st_i2b, st_i2s, st_i2c, st_lcmp, st_dup, st_pop, st_dup2, st_pop2, st_getfield, st_getstatic, st_checkcast, st_instanceof, st_putfield, st_putstatic, st_dstore, st_iaload, st_baload, st_laload, st_aaload, st_iastore, st_bastore, st_lastore, st_arraylength, st_dcmpg, st_dcmpl, st_fcmpg, st_fcmpl, st_monitorenter, st_tableswitch, st_multianewarray, st_invokeinterface, st_ireturn, st_lreturn, st_return_, st_ldc, st_ldc_w, st_ldc2_w, st_freturn, st_invokevirtual, st_anewarray0, st_anewarray1, st_anewarray2, st_anewarray3, st_anewarray4, st_anewarray5, st_lookupswitch, popI_c, popL_c, popR_c, popV_c, getI_c, getL_c, getR_c, lg_z, lg_s, ls1_z, ls1_o, ls1_s, ls2_z, ls2_o, ls2_s, noL_i, noL_l, noL_r, isL_i, isL_l, isL_r, tk_z, tk_s, psh_n, psh_s, ent_e, entL_n, entL_c, cc_eq, cc_ne, cc_lt, cc_ge, cc_gt, cc_le, swt_n, swt_c, lsw_n, lsw_c, mPs, NSTR_e, akds, alens, cnts, arfs, inb_e, lcm_lt, lcm_gt, lcm_ge, lcm_le, lcm_eq, lcm_a, lcm_b, Int.reduceToNat, Nat.reduceDiv, Nat.reduceMod, Nat.reduceMul, Nat.reduceAdd, Nat.reduceSub, Nat.reduceLT, Nat.reduceLeDiff, Nat.reduceEqDiff, Int.reduceNeg, Int.reduceAdd, Nat.one_mul, Nat.zero_mul, Nat.add_zero, Nat.zero_add, if_true, if_false, eq_self, true_and, and_true, true_or, or_true, false_or, or_false, List.length_cons, List.length_nil, List.cons_append, List.nil_append, List.replicate_zero, List.replicate_succ, Nat.lt_irrefl, reduceCtorEq, Bool.false_eq_true, in32, in64, Int.reduceLE, Int.reduceLT, Int.reduceEq, Int.reduceNe, not_true_eq_false, not_false_eq_true, true_implies, false_implies, implies_true, false_and, and_false, and_self, b_X11_judge, r_X11_judge, Nat.zero_add]
  (repeat' with_reducible first | apply And.intro | intro _)
  all_goals try omega
  all_goals try (exact h2 (Or.inl (by omega)))
  · have h0 := h0 ⟨by omega, by omega⟩ c (by omega)
    have tb := tel_b (lw := lw) (ll := ll) (f := fun k => σ 36 t.toNat k.toNat) (σ 8 t.toNat 3).toNat 0 (V σ 0 b)
    have te := tel_e (lw := lw) (ll := ll) (f := fun k => σ 36 t.toNat k.toNat) (σ 8 t.toNat 3).toNat 0 (V σ 0 b)
    refine c_Wtake (n := 1) (m := 0) (b := b) (by decide) (by decide) hi (fun σ1 x1 v1 i1 => ?_)
    have e8 : σ1 8 = σ 8 := x1.k (by decide) (by decide)
    have e36 : σ1 36 = σ 36 := x1.k (by decide) (by decide)
    simp only [wp_c, st_iload, st_lload, st_aload, st_istore, st_lstore, st_astore, st_iinc, st_sipush, st_jsr_w, st_goto, st_jsr, st_goto_w, st_if_icmp, st_ifCond, st_iadd, st_isub, st_imul, st_idiv, st_irem, st_iand, st_ior, st_ixor, st_ishl, st_ishr, st_iushr, st_ladd, st_lsub, st_lmul, st_ldiv, st_lrem, st_land, st_lor, st_lshl, st_lshr, st_i2l, st_l2i, st_i2b, st_i2s, st_i2c, st_lcmp, st_dup, st_pop, st_dup2, st_pop2, st_getfield, st_getstatic, st_checkcast, st_instanceof, st_putfield, st_putstatic, st_dstore, st_iaload, st_baload, st_laload, st_aaload, st_iastore, st_bastore, st_lastore, st_arraylength, st_dcmpg, st_dcmpl, st_fcmpg, st_fcmpl, st_monitorenter, st_tableswitch, st_multianewarray, st_invokeinterface, st_ireturn, st_lreturn, st_return_, st_ldc, st_ldc_w, st_ldc2_w, st_freturn, st_invokevirtual, st_anewarray0, st_anewarray1, st_anewarray2, st_anewarray3, st_anewarray4, st_anewarray5, st_lookupswitch, popI_c, popL_c, popR_c, popV_c, getI_c, getL_c, getR_c, lg_z, lg_s, ls1_z, ls1_o, ls1_s, ls2_z, ls2_o, ls2_s, noL_i, noL_l, noL_r, isL_i, isL_l, isL_r, tk_z, tk_s, psh_n, psh_s, ent_e, entL_n, entL_c, cc_eq, cc_ne, cc_lt, cc_ge, cc_gt, cc_le, swt_n, swt_c, lsw_n, lsw_c, mPs, NSTR_e, akds, alens, cnts, arfs, inb_e, lcm_lt, lcm_gt, lcm_ge, lcm_le, lcm_eq, lcm_a, lcm_b, Int.reduceToNat, Nat.reduceDiv, Nat.reduceMod, Nat.reduceMul, Nat.reduceAdd, Nat.reduceSub, Nat.reduceLT, Nat.reduceLeDiff, Nat.reduceEqDiff, Int.reduceNeg, Int.reduceAdd, Nat.one_mul, Nat.zero_mul, Nat.add_zero, Nat.zero_add, if_true, if_false, eq_self, true_and, and_true, true_or, or_true, false_or, or_false, List.length_cons, List.length_nil, List.cons_append, List.nil_append, List.replicate_zero, List.replicate_succ, Nat.lt_irrefl, reduceCtorEq, Bool.false_eq_true, in32, in64, Int.reduceLE, Int.reduceLT, Int.reduceEq, Int.reduceNe, not_true_eq_false, not_false_eq_true, true_implies, false_implies, implies_true, false_and, and_false, and_self, b_X11_judge, r_X11_judge]
    (repeat' with_reducible first | apply And.intro | intro _)
    all_goals try omega
    refine c_doAll (t := t.toNat) (w := 1) (b := b) (by omega) (by decide) i1 (by rw [e8]; exact hmt.2) (fun k y z => by rw [e36]; exact hn _ k (by omega) y z) (by rw [v1]; exact hd) (fun σ2 x2 g2 i2 => ?_)
    rw [e8, e36, v1] at g2 ⊢
    have f2 : frw σ σ2 := (frw.i x1 (by decide) (by decide) (Or.inl (by decide))).tr (frw.i x2 (by decide) (by decide) (Or.inl (by decide)))
    have v2 : V σ2 0 b = V σ 0 b := (V_i x2 (by decide) (by decide) (by decide)).trans (V_i x1 (by decide) (by decide) (by decide))
    have w2 : WI σ2 0 b lw ll := WI_g x2 (by decide) (by decide) (by decide) (by decide) (WI_g x1 (by decide) (by decide) (by decide) (by decide) hi)
    have p2 : PI σ2 a := PI_i x2 (by decide) (by decide) (Or.inl (by decide)) (PI_i x1 (by decide) (by decide) (Or.inl (by decide)) hpa)
    have h0 := h0 σ2 f2 v2 w2 p2
    have e82 : σ2 8 = σ 8 := (x2.k (by decide) (by decide)).trans e8
    have gw : σ2 0 1 1 = (tel lw ll (fun k => σ 36 t.toNat k.toNat) (σ 8 t.toNat 3).toNat 0 (V σ 0 b)).2.1 := congrArg Prod.fst g2
    have gV : V σ2 1 b = (tel lw ll (fun k => σ 36 t.toNat k.toNat) (σ 8 t.toNat 3).toNat 0 (V σ 0 b)).2.2 := congrArg Prod.snd g2
    generalize tel lw ll (fun k => σ 36 t.toNat k.toNat) (σ 8 t.toNat 3).toNat 0 (V σ 0 b) = T at h0 tb te gw gV ⊢
    have e83 : σ2 8 t.toNat 3 = σ 8 t.toNat 3 := by rw [e82]
    have hx4 : x = 0 ∨ x = 1 ∨ x = 2 ∨ x = 3 := by omega
    rcases hx4 with rfl | rfl | rfl | rfl
    · simp only [wp_c, st_iload, st_lload, st_aload, st_istore, st_lstore, st_astore, st_iinc, st_sipush, st_jsr_w, st_goto, st_jsr, st_goto_w, st_if_icmp, st_ifCond, st_iadd, st_isub, st_imul, st_idiv, st_irem, st_iand, st_ior, st_ixor, st_ishl, st_ishr, st_iushr, st_ladd, st_lsub, st_lmul, st_ldiv, st_lrem, st_land, st_lor, st_lshl, st_lshr, st_i2l, st_l2i, st_i2b, st_i2s, st_i2c, st_lcmp, st_dup, st_pop, st_dup2, st_pop2, st_getfield, st_getstatic, st_checkcast, st_instanceof, st_putfield, st_putstatic, st_dstore, st_iaload, st_baload, st_laload, st_aaload, st_iastore, st_bastore, st_lastore, st_arraylength, st_dcmpg, st_dcmpl, st_fcmpg, st_fcmpl, st_monitorenter, st_tableswitch, st_multianewarray, st_invokeinterface, st_ireturn, st_lreturn, st_return_, st_ldc, st_ldc_w, st_ldc2_w, st_freturn, st_invokevirtual, st_anewarray0, st_anewarray1, st_anewarray2, st_anewarray3, st_anewarray4, st_anewarray5, st_lookupswitch, popI_c, popL_c, popR_c, popV_c, getI_c, getL_c, getR_c, lg_z, lg_s, ls1_z, ls1_o, ls1_s, ls2_z, ls2_o, ls2_s, noL_i, noL_l, noL_r, isL_i, isL_l, isL_r, tk_z, tk_s, psh_n, psh_s, ent_e, entL_n, entL_c, cc_eq, cc_ne, cc_lt, cc_ge, cc_gt, cc_le, swt_n, swt_c, lsw_n, lsw_c, mPs, NSTR_e, akds, alens, cnts, arfs, inb_e, lcm_lt, lcm_gt, lcm_ge, lcm_le, lcm_eq, lcm_a, lcm_b, Int.reduceToNat, Nat.reduceDiv, Nat.reduceMod, Nat.reduceMul, Nat.reduceAdd, Nat.reduceSub, Nat.reduceLT, Nat.reduceLeDiff, Nat.reduceEqDiff, Int.reduceNeg, Int.reduceAdd, Nat.one_mul, Nat.zero_mul, Nat.add_zero, Nat.zero_add, if_true, if_false, eq_self, true_and, and_true, true_or, or_true, false_or, or_false, List.length_cons, List.length_nil, List.cons_append, List.nil_append, List.replicate_zero, List.replicate_succ, Nat.lt_irrefl, reduceCtorEq, Bool.false_eq_true, in32, in64, Int.reduceLE, Int.reduceLT, Int.reduceEq, Int.reduceNe, not_true_eq_false, not_false_eq_true, true_implies, false_implies, implies_true, false_and, and_false, and_self, b_X11_judge, r_X11_judge, e83]
      (repeat' with_reducible first | apply And.intro | intro _)
      all_goals try omega
      · have : ¬ T.2.1 = 0 → False := fun h => h (te.mpr (by omega))
        have hT : T.2.1 = 0 := Classical.byContradiction this
        have ej : jdg T 0 = -1 := by
          unfold jdg
          rw [if_pos rfl, if_pos hT]
        rw [ej] at h0
        exact h0
      · have hT : ¬ T.2.1 = 0 := fun h => by
          have := te.mp h
          omega
        have ej : jdg T 0 = T.1 := by
          unfold jdg
          rw [if_pos rfl, if_neg hT]
        rw [ej] at h0
        exact h0
    · simp only [wp_c, st_iload, st_lload, st_aload, st_istore, st_lstore, st_astore, st_iinc, st_sipush, st_jsr_w, st_goto, st_jsr, st_goto_w, st_if_icmp, st_ifCond, st_iadd, st_isub, st_imul, st_idiv, st_irem, st_iand, st_ior, st_ixor, st_ishl, st_ishr, st_iushr, st_ladd, st_lsub, st_lmul, st_ldiv, st_lrem, st_land, st_lor, st_lshl, st_lshr, st_i2l, st_l2i, st_i2b, st_i2s, st_i2c, st_lcmp, st_dup, st_pop, st_dup2, st_pop2, st_getfield, st_getstatic, st_checkcast, st_instanceof, st_putfield, st_putstatic, st_dstore, st_iaload, st_baload, st_laload, st_aaload, st_iastore, st_bastore, st_lastore, st_arraylength, st_dcmpg, st_dcmpl, st_fcmpg, st_fcmpl, st_monitorenter, st_tableswitch, st_multianewarray, st_invokeinterface, st_ireturn, st_lreturn, st_return_, st_ldc, st_ldc_w, st_ldc2_w, st_freturn, st_invokevirtual, st_anewarray0, st_anewarray1, st_anewarray2, st_anewarray3, st_anewarray4, st_anewarray5, st_lookupswitch, popI_c, popL_c, popR_c, popV_c, getI_c, getL_c, getR_c, lg_z, lg_s, ls1_z, ls1_o, ls1_s, ls2_z, ls2_o, ls2_s, noL_i, noL_l, noL_r, isL_i, isL_l, isL_r, tk_z, tk_s, psh_n, psh_s, ent_e, entL_n, entL_c, cc_eq, cc_ne, cc_lt, cc_ge, cc_gt, cc_le, swt_n, swt_c, lsw_n, lsw_c, mPs, NSTR_e, akds, alens, cnts, arfs, inb_e, lcm_lt, lcm_gt, lcm_ge, lcm_le, lcm_eq, lcm_a, lcm_b, Int.reduceToNat, Nat.reduceDiv, Nat.reduceMod, Nat.reduceMul, Nat.reduceAdd, Nat.reduceSub, Nat.reduceLT, Nat.reduceLeDiff, Nat.reduceEqDiff, Int.reduceNeg, Int.reduceAdd, Nat.one_mul, Nat.zero_mul, Nat.add_zero, Nat.zero_add, if_true, if_false, eq_self, true_and, and_true, true_or, or_true, false_or, or_false, List.length_cons, List.length_nil, List.cons_append, List.nil_append, List.replicate_zero, List.replicate_succ, Nat.lt_irrefl, reduceCtorEq, Bool.false_eq_true, in32, in64, Int.reduceLE, Int.reduceLT, Int.reduceEq, Int.reduceNe, not_true_eq_false, not_false_eq_true, true_implies, false_implies, implies_true, false_and, and_false, and_self, b_X11_judge, r_X11_judge, gw]
      (repeat' with_reducible first | apply And.intro | intro _)
      all_goals try omega
      all_goals exact h0
    · simp only [wp_c, st_iload, st_lload, st_aload, st_istore, st_lstore, st_astore, st_iinc, st_sipush, st_jsr_w, st_goto, st_jsr, st_goto_w, st_if_icmp, st_ifCond, st_iadd, st_isub, st_imul, st_idiv, st_irem, st_iand, st_ior, st_ixor, st_ishl, st_ishr, st_iushr, st_ladd, st_lsub, st_lmul, st_ldiv, st_lrem, st_land, st_lor, st_lshl, st_lshr, st_i2l, st_l2i, st_i2b, st_i2s, st_i2c, st_lcmp, st_dup, st_pop, st_dup2, st_pop2, st_getfield, st_getstatic, st_checkcast, st_instanceof, st_putfield, st_putstatic, st_dstore, st_iaload, st_baload, st_laload, st_aaload, st_iastore, st_bastore, st_lastore, st_arraylength, st_dcmpg, st_dcmpl, st_fcmpg, st_fcmpl, st_monitorenter, st_tableswitch, st_multianewarray, st_invokeinterface, st_ireturn, st_lreturn, st_return_, st_ldc, st_ldc_w, st_ldc2_w, st_freturn, st_invokevirtual, st_anewarray0, st_anewarray1, st_anewarray2, st_anewarray3, st_anewarray4, st_anewarray5, st_lookupswitch, popI_c, popL_c, popR_c, popV_c, getI_c, getL_c, getR_c, lg_z, lg_s, ls1_z, ls1_o, ls1_s, ls2_z, ls2_o, ls2_s, noL_i, noL_l, noL_r, isL_i, isL_l, isL_r, tk_z, tk_s, psh_n, psh_s, ent_e, entL_n, entL_c, cc_eq, cc_ne, cc_lt, cc_ge, cc_gt, cc_le, swt_n, swt_c, lsw_n, lsw_c, mPs, NSTR_e, akds, alens, cnts, arfs, inb_e, lcm_lt, lcm_gt, lcm_ge, lcm_le, lcm_eq, lcm_a, lcm_b, Int.reduceToNat, Nat.reduceDiv, Nat.reduceMod, Nat.reduceMul, Nat.reduceAdd, Nat.reduceSub, Nat.reduceLT, Nat.reduceLeDiff, Nat.reduceEqDiff, Int.reduceNeg, Int.reduceAdd, Nat.one_mul, Nat.zero_mul, Nat.add_zero, Nat.zero_add, if_true, if_false, eq_self, true_and, and_true, true_or, or_true, false_or, or_false, List.length_cons, List.length_nil, List.cons_append, List.nil_append, List.replicate_zero, List.replicate_succ, Nat.lt_irrefl, reduceCtorEq, Bool.false_eq_true, in32, in64, Int.reduceLE, Int.reduceLT, Int.reduceEq, Int.reduceNe, not_true_eq_false, not_false_eq_true, true_implies, false_implies, implies_true, false_and, and_false, and_self, b_X11_judge, r_X11_judge]
      (repeat' with_reducible first | apply And.intro | intro _)
      all_goals try omega
      refine c_fallenBits (w := 1) (b := b) i2 ?_
      rw [gV]
      simp only [wp_c, st_iload, st_lload, st_aload, st_istore, st_lstore, st_astore, st_iinc, st_sipush, st_jsr_w, st_goto, st_jsr, st_goto_w, st_if_icmp, st_ifCond, st_iadd, st_isub, st_imul, st_idiv, st_irem, st_iand, st_ior, st_ixor, st_ishl, st_ishr, st_iushr, st_ladd, st_lsub, st_lmul, st_ldiv, st_lrem, st_land, st_lor, st_lshl, st_lshr, st_i2l, st_l2i, st_i2b, st_i2s, st_i2c, st_lcmp, st_dup, st_pop, st_dup2, st_pop2, st_getfield, st_getstatic, st_checkcast, st_instanceof, st_putfield, st_putstatic, st_dstore, st_iaload, st_baload, st_laload, st_aaload, st_iastore, st_bastore, st_lastore, st_arraylength, st_dcmpg, st_dcmpl, st_fcmpg, st_fcmpl, st_monitorenter, st_tableswitch, st_multianewarray, st_invokeinterface, st_ireturn, st_lreturn, st_return_, st_ldc, st_ldc_w, st_ldc2_w, st_freturn, st_invokevirtual, st_anewarray0, st_anewarray1, st_anewarray2, st_anewarray3, st_anewarray4, st_anewarray5, st_lookupswitch, popI_c, popL_c, popR_c, popV_c, getI_c, getL_c, getR_c, lg_z, lg_s, ls1_z, ls1_o, ls1_s, ls2_z, ls2_o, ls2_s, noL_i, noL_l, noL_r, isL_i, isL_l, isL_r, tk_z, tk_s, psh_n, psh_s, ent_e, entL_n, entL_c, cc_eq, cc_ne, cc_lt, cc_ge, cc_gt, cc_le, swt_n, swt_c, lsw_n, lsw_c, mPs, NSTR_e, akds, alens, cnts, arfs, inb_e, lcm_lt, lcm_gt, lcm_ge, lcm_le, lcm_eq, lcm_a, lcm_b, Int.reduceToNat, Nat.reduceDiv, Nat.reduceMod, Nat.reduceMul, Nat.reduceAdd, Nat.reduceSub, Nat.reduceLT, Nat.reduceLeDiff, Nat.reduceEqDiff, Int.reduceNeg, Int.reduceAdd, Nat.one_mul, Nat.zero_mul, Nat.add_zero, Nat.zero_add, if_true, if_false, eq_self, true_and, and_true, true_or, or_true, false_or, or_false, List.length_cons, List.length_nil, List.cons_append, List.nil_append, List.replicate_zero, List.replicate_succ, Nat.lt_irrefl, reduceCtorEq, Bool.false_eq_true, in32, in64, Int.reduceLE, Int.reduceLT, Int.reduceEq, Int.reduceNe, not_true_eq_false, not_false_eq_true, true_implies, false_implies, implies_true, false_and, and_false, and_self, b_X11_judge, r_X11_judge]
      (repeat' with_reducible first | apply And.intro | intro _)
      all_goals try omega
      all_goals exact h0
    · simp only [wp_c, st_iload, st_lload, st_aload, st_istore, st_lstore, st_astore, st_iinc, st_sipush, st_jsr_w, st_goto, st_jsr, st_goto_w, st_if_icmp, st_ifCond, st_iadd, st_isub, st_imul, st_idiv, st_irem, st_iand, st_ior, st_ixor, st_ishl, st_ishr, st_iushr, st_ladd, st_lsub, st_lmul, st_ldiv, st_lrem, st_land, st_lor, st_lshl, st_lshr, st_i2l, st_l2i, st_i2b, st_i2s, st_i2c, st_lcmp, st_dup, st_pop, st_dup2, st_pop2, st_getfield, st_getstatic, st_checkcast, st_instanceof, st_putfield, st_putstatic, st_dstore, st_iaload, st_baload, st_laload, st_aaload, st_iastore, st_bastore, st_lastore, st_arraylength, st_dcmpg, st_dcmpl, st_fcmpg, st_fcmpl, st_monitorenter, st_tableswitch, st_multianewarray, st_invokeinterface, st_ireturn, st_lreturn, st_return_, st_ldc, st_ldc_w, st_ldc2_w, st_freturn, st_invokevirtual, st_anewarray0, st_anewarray1, st_anewarray2, st_anewarray3, st_anewarray4, st_anewarray5, st_lookupswitch, popI_c, popL_c, popR_c, popV_c, getI_c, getL_c, getR_c, lg_z, lg_s, ls1_z, ls1_o, ls1_s, ls2_z, ls2_o, ls2_s, noL_i, noL_l, noL_r, isL_i, isL_l, isL_r, tk_z, tk_s, psh_n, psh_s, ent_e, entL_n, entL_c, cc_eq, cc_ne, cc_lt, cc_ge, cc_gt, cc_le, swt_n, swt_c, lsw_n, lsw_c, mPs, NSTR_e, akds, alens, cnts, arfs, inb_e, lcm_lt, lcm_gt, lcm_ge, lcm_le, lcm_eq, lcm_a, lcm_b, Int.reduceToNat, Nat.reduceDiv, Nat.reduceMod, Nat.reduceMul, Nat.reduceAdd, Nat.reduceSub, Nat.reduceLT, Nat.reduceLeDiff, Nat.reduceEqDiff, Int.reduceNeg, Int.reduceAdd, Nat.one_mul, Nat.zero_mul, Nat.add_zero, Nat.zero_add, if_true, if_false, eq_self, true_and, and_true, true_or, or_true, false_or, or_false, List.length_cons, List.length_nil, List.cons_append, List.nil_append, List.replicate_zero, List.replicate_succ, Nat.lt_irrefl, reduceCtorEq, Bool.false_eq_true, in32, in64, Int.reduceLE, Int.reduceLT, Int.reduceEq, Int.reduceNe, not_true_eq_false, not_false_eq_true, true_implies, false_implies, implies_true, false_and, and_false, and_self, b_X11_judge, r_X11_judge]
      (repeat' with_reducible first | apply And.intro | intro _)
      all_goals try omega
      refine c_eastBits (w := 1) (b := b) i2 ?_
      rw [gV]
      simp only [wp_c, st_iload, st_lload, st_aload, st_istore, st_lstore, st_astore, st_iinc, st_sipush, st_jsr_w, st_goto, st_jsr, st_goto_w, st_if_icmp, st_ifCond, st_iadd, st_isub, st_imul, st_idiv, st_irem, st_iand, st_ior, st_ixor, st_ishl, st_ishr, st_iushr, st_ladd, st_lsub, st_lmul, st_ldiv, st_lrem, st_land, st_lor, st_lshl, st_lshr, st_i2l, st_l2i, st_i2b, st_i2s, st_i2c, st_lcmp, st_dup, st_pop, st_dup2, st_pop2, st_getfield, st_getstatic, st_checkcast, st_instanceof, st_putfield, st_putstatic, st_dstore, st_iaload, st_baload, st_laload, st_aaload, st_iastore, st_bastore, st_lastore, st_arraylength, st_dcmpg, st_dcmpl, st_fcmpg, st_fcmpl, st_monitorenter, st_tableswitch, st_multianewarray, st_invokeinterface, st_ireturn, st_lreturn, st_return_, st_ldc, st_ldc_w, st_ldc2_w, st_freturn, st_invokevirtual, st_anewarray0, st_anewarray1, st_anewarray2, st_anewarray3, st_anewarray4, st_anewarray5, st_lookupswitch, popI_c, popL_c, popR_c, popV_c, getI_c, getL_c, getR_c, lg_z, lg_s, ls1_z, ls1_o, ls1_s, ls2_z, ls2_o, ls2_s, noL_i, noL_l, noL_r, isL_i, isL_l, isL_r, tk_z, tk_s, psh_n, psh_s, ent_e, entL_n, entL_c, cc_eq, cc_ne, cc_lt, cc_ge, cc_gt, cc_le, swt_n, swt_c, lsw_n, lsw_c, mPs, NSTR_e, akds, alens, cnts, arfs, inb_e, lcm_lt, lcm_gt, lcm_ge, lcm_le, lcm_eq, lcm_a, lcm_b, Int.reduceToNat, Nat.reduceDiv, Nat.reduceMod, Nat.reduceMul, Nat.reduceAdd, Nat.reduceSub, Nat.reduceLT, Nat.reduceLeDiff, Nat.reduceEqDiff, Int.reduceNeg, Int.reduceAdd, Nat.one_mul, Nat.zero_mul, Nat.add_zero, Nat.zero_add, if_true, if_false, eq_self, true_and, and_true, true_or, or_true, false_or, or_false, List.length_cons, List.length_nil, List.cons_append, List.nil_append, List.replicate_zero, List.replicate_succ, Nat.lt_irrefl, reduceCtorEq, Bool.false_eq_true, in32, in64, Int.reduceLE, Int.reduceLT, Int.reduceEq, Int.reduceNe, not_true_eq_false, not_false_eq_true, true_implies, false_implies, implies_true, false_and, and_false, and_self, b_X11_judge, r_X11_judge]
      (repeat' with_reducible first | apply And.intro | intro _)
      all_goals try omega
      all_goals exact h0
  · exact h6 ⟨by omega, by omega⟩ c (by omega)
end TAKE
