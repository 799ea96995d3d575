/-! 92: the reference: in which order people get over -/
theorem p6 : ∀ n : Nat, 1 ≤ (6 : Int) ^ n := by
  intro n
  induction n with
  | zero => decide
  | succ n ih => rw [Int.pow_succ]; omega
theorem gF_b {rec : Int → RS → RS} {left B : Int} (hB : 0 ≤ B) (h : ∀ p s, s.1 ≤ (rec p s).1 ∧ (rec p s).1 ≤ s.1 + B) : ∀ (c : Nat) (p : Int) (s : RS), s.1 ≤ (gF rec left c p s).1 ∧ (gF rec left c p s).1 ≤ s.1 + (c : Int) * B := by
  intro c
  induction c with
  | zero => intro p s; exact ⟨Int.le_refl _, by show s.1 ≤ s.1 + ((0 : Nat) : Int) * B; omega⟩
  | succ c ih =>
    intro p s
    show s.1 ≤ (gF rec left c (p + 1) (if left / 2 ^ p.toNat % 2 = 1 then rec p s else s)).1 ∧ (gF rec left c (p + 1) (if left / 2 ^ p.toNat % 2 = 1 then rec p s else s)).1 ≤ s.1 + ((c + 1 : Nat) : Int) * B
    have e : ((c + 1 : Nat) : Int) * B = (c : Int) * B + B := by rw [Int.natCast_succ, Int.add_mul, Int.one_mul]
    have i1 := ih (p + 1) (if left / 2 ^ p.toNat % 2 = 1 then rec p s else s)
    have i2 : s.1 ≤ (if left / 2 ^ p.toNat % 2 = 1 then rec p s else s).1 ∧ (if left / 2 ^ p.toNat % 2 = 1 then rec p s else s).1 ≤ s.1 + B := by
      split
      · exact h p s
      · omega
    rw [e]
    omega
theorem gR_b {a : BV} {lw : List Int} (h2 : 0 ≤ a 2 ∧ a 2 ≤ 6) : ∀ (n : Nat) (m : Int) (f : Int → Int) (left : Int) (s : RS), s.1 ≤ (gR a lw n m f left s).1 ∧ (gR a lw n m f left s).1 ≤ s.1 + 6 ^ n := by
  intro n
  induction n with
  | zero => intro m f left s; exact ⟨Int.le_refl _, by show s.1 ≤ s.1 + 1; omega⟩
  | succ n ih =>
    intro m f left s
    have b1 := p6 n
    have b2 : (6 : Int) ^ (n + 1) = 6 ^ n * 6 := Int.pow_succ _ _
    unfold gR
    split
    · rcases Classical.em (rowR a lw m f lagI = -1) with g | g
      · rw [cifS_t g]
        show s.1 ≤ s.1 + 1 ∧ s.1 + 1 ≤ _
        omega
      · rw [cifS_f g]
        omega
    · have g := gF_b (B := 6 ^ n) (left := left) (by omega) (fun p s => ih (m + 1) (fu f m p) (left - 2 ^ p.toNat) s) (a 2).toNat 0 s
      have e : (((a 2).toNat : Nat) : Int) * 6 ^ n ≤ 6 * 6 ^ n := Int.mul_le_mul_of_nonneg_right (by omega) (by omega)
      omega
section ORDR
variable {d : Nat} {a : BV}
set_option maxRecDepth 4000 in
theorem q_goesRows (ho : OkA a) (hl : LawA a) {M : Int} (hM : 1 ≤ M ∧ M ≤ 6) : ∀ (n : Nat) (m : Int) (f : Int → Int) (left sc : Int) (sb : Int → Int) (σ : Mem) (K : Option AV → Mem → Prop), (0 ≤ left ∧ left < 64) → pcz left < n → 0 ≤ m → m + pcz left = M → σ 44 0 = a → σ 12 0 21 = m → (∀ i : Int, 0 ≤ i → i < m → σ 52 0 i.toNat = f i) → (∀ i : Int, 0 ≤ i → i < m → 0 ≤ f i ∧ f i < 6) → σ 12 0 24 = sc → 0 ≤ sc → sc + 6 ^ n ≤ 2147483647 → (0 < sc → ∀ i : Int, 0 ≤ i → i < M → σ 53 0 i.toNat = sb i) → (∀ σ', eqx [12, 48, 49, 50, 52, 53] σ σ' → k12 σ σ' → σ' 12 0 21 = m → (∀ i : Int, 0 ≤ i → i < m → σ' 52 0 i.toNat = f i) → σ' 12 0 24 = (gR a (lawR a 0) n m f left (sc, sb)).1 → (0 < (gR a (lawR a 0) n m f left (sc, sb)).1 → ∀ i : Int, 0 ≤ i → i < M → σ' 53 0 i.toNat = (gR a (lawR a 0) n m f left (sc, sb)).2 i) → K none σ') → Ev (d + n + 4) 259 [mo, .inl left] σ K := by
  have hP := ho.P
  intro n
  induction n with
  | zero =>
    intro m f left sc sb σ K h1 h2
    have := pcz_b left
    omega
  | succ n ih =>
    intro m f left sc sb σ K h1 h2 h3 h4 h44 h21 h52 hp h24 h5 h6 h53 hK
    rw [show d + (n + 1) + 4 = (d + n + 4) + 1 by omega]
    unfold gR at hK
    have pz := pcz_b left
    have b0 := p6 (n + 1)
    by_cases c : left = 0
    · rw [if_pos c] at hK
      have pz0 : pcz left = 0 := by rw [c]; decide
      refine e_X12_goesRows (Nat.le_of_ble_eq_true rfl) ?_
      simp only [wp_c, st_iload, st_lload, st_aload, st_istore, st_lstore, st_astore, st_iinc, st_sipush, st_jsr_w, st_goto, st_jsr, st_goto_w, st_if_icmp, st_ifCond, st_iadd, st_isub, st_imul, st_idiv, st_irem, st_iand, st_ior, st_ixor, st_ishl, st_ishr, st_iushr, st_ladd, st_lsub, st_lmul, st_ldiv, st_lrem, st_land, st_lor, st_lshl, st_lshr, st_i2l, st_l2i, st_i2b, st_i2s, st_i2c, st_lcmp, st_dup, st_pop, st_dup2, st_pop2, st_getfield, st_getstatic, st_checkcast, st_instanceof, st_putfield, st_putstatic, st_dstore, st_iaload, st_baload, st_laload, st_aaload, st_iastore, st_bastore, st_lastore, st_arraylength, st_dcmpg, st_dcmpl, st_fcmpg, st_fcmpl, st_monitorenter, st_tableswitch, st_multianewarray, st_invokeinterface, st_ireturn, st_lreturn, st_return_, st_ldc, st_ldc_w, st_ldc2_w, st_freturn, st_invokevirtual, st_anewarray0, st_anewarray1, st_anewarray2, st_anewarray3, st_anewarray4, st_anewarray5, st_lookupswitch, popI_c, popL_c, popR_c, popV_c, getI_c, getL_c, getR_c, lg_z, lg_s, ls1_z, ls1_o, ls1_s, ls2_z, ls2_o, ls2_s, noL_i, noL_l, noL_r, isL_i, isL_l, isL_r, tk_z, tk_s, psh_n, psh_s, ent_e, entL_n, entL_c, cc_eq, cc_ne, cc_lt, cc_ge, cc_gt, cc_le, swt_n, swt_c, lsw_n, lsw_c, mPs, NSTR_e, akds, alens, cnts, arfs, inb_e, lcm_lt, lcm_gt, lcm_ge, lcm_le, lcm_eq, lcm_a, lcm_b, Int.reduceToNat, Nat.reduceDiv, Nat.reduceMod, Nat.reduceMul, Nat.reduceAdd, Nat.reduceSub, Nat.reduceLT, Nat.reduceLeDiff, Nat.reduceEqDiff, Int.reduceNeg, Int.reduceAdd, Nat.one_mul, Nat.zero_mul, Nat.add_zero, Nat.zero_add, if_true, if_false, eq_self, true_and, and_true, true_or, or_true, false_or, or_false, List.length_cons, List.length_nil, List.cons_append, List.nil_append, List.replicate_zero, List.replicate_succ, Nat.lt_irrefl, reduceCtorEq, Bool.false_eq_true, in32, in64, Int.reduceLE, Int.reduceLT, Int.reduceEq, Int.reduceNe, not_true_eq_false, not_false_eq_true, true_implies, false_implies, implies_true, false_and, and_false, and_self, b_X12_goesRows, r_X12_goesRows]
      (repeat' with_reducible first | apply And.intro | intro _)
      all_goals try omega
      refine q_stopsRow (m := m) (f := f) (lag := lagI) (by rw [h44]; exact ho) (by rw [h44]; exact hl) ⟨by omega, by omega⟩ h21 h52 hp (fun i a b => ⟨by show (0 + 1) * i = i; omega, a, by show i ≤ 40; omega⟩) (fun σ1 x1 => ?_)
      rw [h44]
      have rb := rowR_b (lw := lawR a 0) (m := m) (f := f) (lag := lagI) ho
      have e24 : σ1 12 0 24 = sc := by rw [x1 12 (by decide)]; exact h24
      have e21 : σ1 12 0 21 = m := by rw [x1 12 (by decide)]; exact h21
      have k1 : k12 σ σ1 := k12.rf.x x1 (by decide)
      have p1 : ∀ i : Int, 0 ≤ i → i < m → σ1 52 0 i.toNat = f i := fun i a b => by rw [x1 52 (by decide)]; exact h52 i a b
      by_cases g : rowR a (lawR a 0) m f lagI = -1
      · rw [cifS_t g] at hK
        simp only [wp_c, st_iload, st_lload, st_aload, st_istore, st_lstore, st_astore, st_iinc, st_sipush, st_jsr_w, st_goto, st_jsr, st_goto_w, st_if_icmp, st_ifCond, st_iadd, st_isub, st_imul, st_idiv, st_irem, st_iand, st_ior, st_ixor, st_ishl, st_ishr, st_iushr, st_ladd, st_lsub, st_lmul, st_ldiv, st_lrem, st_land, st_lor, st_lshl, st_lshr, st_i2l, st_l2i, st_i2b, st_i2s, st_i2c, st_lcmp, st_dup, st_pop, st_dup2, st_pop2, st_getfield, st_getstatic, st_checkcast, st_instanceof, st_putfield, st_putstatic, st_dstore, st_iaload, st_baload, st_laload, st_aaload, st_iastore, st_bastore, st_lastore, st_arraylength, st_dcmpg, st_dcmpl, st_fcmpg, st_fcmpl, st_monitorenter, st_tableswitch, st_multianewarray, st_invokeinterface, st_ireturn, st_lreturn, st_return_, st_ldc, st_ldc_w, st_ldc2_w, st_freturn, st_invokevirtual, st_anewarray0, st_anewarray1, st_anewarray2, st_anewarray3, st_anewarray4, st_anewarray5, st_lookupswitch, popI_c, popL_c, popR_c, popV_c, getI_c, getL_c, getR_c, lg_z, lg_s, ls1_z, ls1_o, ls1_s, ls2_z, ls2_o, ls2_s, noL_i, noL_l, noL_r, isL_i, isL_l, isL_r, tk_z, tk_s, psh_n, psh_s, ent_e, entL_n, entL_c, cc_eq, cc_ne, cc_lt, cc_ge, cc_gt, cc_le, swt_n, swt_c, lsw_n, lsw_c, mPs, NSTR_e, akds, alens, cnts, arfs, inb_e, lcm_lt, lcm_gt, lcm_ge, lcm_le, lcm_eq, lcm_a, lcm_b, Int.reduceToNat, Nat.reduceDiv, Nat.reduceMod, Nat.reduceMul, Nat.reduceAdd, Nat.reduceSub, Nat.reduceLT, Nat.reduceLeDiff, Nat.reduceEqDiff, Int.reduceNeg, Int.reduceAdd, Nat.one_mul, Nat.zero_mul, Nat.add_zero, Nat.zero_add, if_true, if_false, eq_self, true_and, and_true, true_or, or_true, false_or, or_false, List.length_cons, List.length_nil, List.cons_append, List.nil_append, List.replicate_zero, List.replicate_succ, Nat.lt_irrefl, reduceCtorEq, Bool.false_eq_true, in32, in64, Int.reduceLE, Int.reduceLT, Int.reduceEq, Int.reduceNe, not_true_eq_false, not_false_eq_true, true_implies, false_implies, implies_true, false_and, and_false, and_self, b_X12_goesRows, r_X12_goesRows, e24]
        (repeat' with_reducible first | apply And.intro | intro _)
        all_goals try omega
        · -- not the first
          refine hK _ (eqx_mu (x1.wd (by decide)) (by decide)) (k12.mu k1 (by decide)) (by rw [mu_at, if_neg (by decide)]; exact e21) (fun i a b => by rw [mu_k (by decide)]; exact p1 i a b) (by rw [mu_at, if_pos rfl]; rfl) (fun _ i a b => ?_)
          rw [mu_k (by decide), x1 53 (by decide)]
          show _ = (if sc = 0 then f else sb) i
          rw [if_neg (by omega)]
          exact h53 (by omega) i a b
        · refine loop_up (S := Mem) (I := fun z τ => 0 ≤ z ∧ eqx [53] σ1 τ ∧ ∀ i : Int, 0 ≤ i → i < z → τ 53 0 i.toNat = f i) (G := fun z τ => Rn (d + n + 4 + 1) 259 23 [mo, .inl left, .inl z] [] τ K) (P := m) ?_ ?_ 0 σ1 (by omega) ⟨Int.le_refl _, eqx.rf, fun i a b => by omega⟩
          · rintro τ ⟨c1, c2, c3⟩
            have f24 : τ 12 0 24 = sc := by rw [c2 12 (by decide)]; exact e24
            have f21 : τ 12 0 21 = m := by rw [c2 12 (by decide)]; exact e21
            refine l_X12_goesRows_23 ?_
            simp only [wp_c, st_iload, st_lload, st_aload, st_istore, st_lstore, st_astore, st_iinc, st_sipush, st_jsr_w, st_goto, st_jsr, st_goto_w, st_if_icmp, st_ifCond, st_iadd, st_isub, st_imul, st_idiv, st_irem, st_iand, st_ior, st_ixor, st_ishl, st_ishr, st_iushr, st_ladd, st_lsub, st_lmul, st_ldiv, st_lrem, st_land, st_lor, st_lshl, st_lshr, st_i2l, st_l2i, st_i2b, st_i2s, st_i2c, st_lcmp, st_dup, st_pop, st_dup2, st_pop2, st_getfield, st_getstatic, st_checkcast, st_instanceof, st_putfield, st_putstatic, st_dstore, st_iaload, st_baload, st_laload, st_aaload, st_iastore, st_bastore, st_lastore, st_arraylength, st_dcmpg, st_dcmpl, st_fcmpg, st_fcmpl, st_monitorenter, st_tableswitch, st_multianewarray, st_invokeinterface, st_ireturn, st_lreturn, st_return_, st_ldc, st_ldc_w, st_ldc2_w, st_freturn, st_invokevirtual, st_anewarray0, st_anewarray1, st_anewarray2, st_anewarray3, st_anewarray4, st_anewarray5, st_lookupswitch, popI_c, popL_c, popR_c, popV_c, getI_c, getL_c, getR_c, lg_z, lg_s, ls1_z, ls1_o, ls1_s, ls2_z, ls2_o, ls2_s, noL_i, noL_l, noL_r, isL_i, isL_l, isL_r, tk_z, tk_s, psh_n, psh_s, ent_e, entL_n, entL_c, cc_eq, cc_ne, cc_lt, cc_ge, cc_gt, cc_le, swt_n, swt_c, lsw_n, lsw_c, mPs, NSTR_e, akds, alens, cnts, arfs, inb_e, lcm_lt, lcm_gt, lcm_ge, lcm_le, lcm_eq, lcm_a, lcm_b, Int.reduceToNat, Nat.reduceDiv, Nat.reduceMod, Nat.reduceMul, Nat.reduceAdd, Nat.reduceSub, Nat.reduceLT, Nat.reduceLeDiff, Nat.reduceEqDiff, Int.reduceNeg, Int.reduceAdd, Nat.one_mul, Nat.zero_mul, Nat.add_zero, Nat.zero_add, if_true, if_false, eq_self, true_and, and_true, true_or, or_true, false_or, or_false, List.length_cons, List.length_nil, List.cons_append, List.nil_append, List.replicate_zero, List.replicate_succ, Nat.lt_irrefl, reduceCtorEq, Bool.false_eq_true, in32, in64, Int.reduceLE, Int.reduceLT, Int.reduceEq, Int.reduceNe, not_true_eq_false, not_false_eq_true, true_implies, false_implies, implies_true, false_and, and_false, and_self, b_X12_goesRows, r_X12_goesRows, h_X12_goesRows_23, f21, f24]
            (repeat' with_reducible first | apply And.intro | intro _)
            all_goals try omega
            refine hK _ (eqx_mu ((x1.wd (by decide)).tr (c2.wd (by decide))) (by decide)) (k12.mu (k1.x c2 (by decide)) (by decide)) (by rw [mu_at, if_neg (by decide)]; exact f21) (fun i a b => by rw [mu_k (by decide), c2 52 (by decide)]; exact p1 i a b) (by rw [mu_at, if_pos rfl]; rfl) (fun _ i a b => ?_)
            rw [mu_k (by decide)]
            show _ = (if sc = 0 then f else sb) i
            rw [if_pos (by omega)]
            exact c3 i a (by omega)
          · rintro z τ hz ⟨c1, c2, c3⟩ ih2
            have f21 : τ 12 0 21 = m := by rw [c2 12 (by decide)]; exact e21
            have f52 : τ 52 0 z.toNat = f z := by rw [c2 52 (by decide)]; exact p1 z c1 hz
            refine l_X12_goesRows_23 ?_
            simp only [wp_c, st_iload, st_lload, st_aload, st_istore, st_lstore, st_astore, st_iinc, st_sipush, st_jsr_w, st_goto, st_jsr, st_goto_w, st_if_icmp, st_ifCond, st_iadd, st_isub, st_imul, st_idiv, st_irem, st_iand, st_ior, st_ixor, st_ishl, st_ishr, st_iushr, st_ladd, st_lsub, st_lmul, st_ldiv, st_lrem, st_land, st_lor, st_lshl, st_lshr, st_i2l, st_l2i, st_i2b, st_i2s, st_i2c, st_lcmp, st_dup, st_pop, st_dup2, st_pop2, st_getfield, st_getstatic, st_checkcast, st_instanceof, st_putfield, st_putstatic, st_dstore, st_iaload, st_baload, st_laload, st_aaload, st_iastore, st_bastore, st_lastore, st_arraylength, st_dcmpg, st_dcmpl, st_fcmpg, st_fcmpl, st_monitorenter, st_tableswitch, st_multianewarray, st_invokeinterface, st_ireturn, st_lreturn, st_return_, st_ldc, st_ldc_w, st_ldc2_w, st_freturn, st_invokevirtual, st_anewarray0, st_anewarray1, st_anewarray2, st_anewarray3, st_anewarray4, st_anewarray5, st_lookupswitch, popI_c, popL_c, popR_c, popV_c, getI_c, getL_c, getR_c, lg_z, lg_s, ls1_z, ls1_o, ls1_s, ls2_z, ls2_o, ls2_s, noL_i, noL_l, noL_r, isL_i, isL_l, isL_r, tk_z, tk_s, psh_n, psh_s, ent_e, entL_n, entL_c, cc_eq, cc_ne, cc_lt, cc_ge, cc_gt, cc_le, swt_n, swt_c, lsw_n, lsw_c, mPs, NSTR_e, akds, alens, cnts, arfs, inb_e, lcm_lt, lcm_gt, lcm_ge, lcm_le, lcm_eq, lcm_a, lcm_b, Int.reduceToNat, Nat.reduceDiv, Nat.reduceMod, Nat.reduceMul, Nat.reduceAdd, Nat.reduceSub, Nat.reduceLT, Nat.reduceLeDiff, Nat.reduceEqDiff, Int.reduceNeg, Int.reduceAdd, Nat.one_mul, Nat.zero_mul, Nat.add_zero, Nat.zero_add, if_true, if_false, eq_self, true_and, and_true, true_or, or_true, false_or, or_false, List.length_cons, List.length_nil, List.cons_append, List.nil_append, List.replicate_zero, List.replicate_succ, Nat.lt_irrefl, reduceCtorEq, Bool.false_eq_true, in32, in64, Int.reduceLE, Int.reduceLT, Int.reduceEq, Int.reduceNe, not_true_eq_false, not_false_eq_true, true_implies, false_implies, implies_true, false_and, and_false, and_self, b_X12_goesRows, r_X12_goesRows, h_X12_goesRows_23, f21, f52]
            (repeat' with_reducible first | apply And.intro | intro _)
            all_goals try omega
            refine ih2 _ ⟨by omega, eqx_mu c2 (by decide), fun i a b => ?_⟩
            rw [mu_at]
            by_cases ci : i = z
            · rw [if_pos (by rw [ci]), ci]
            · rw [if_neg (by omega)]
              exact c3 i a (by omega)
      · rw [cifS_f g] at hK
        simp only [wp_c, st_iload, st_lload, st_aload, st_istore, st_lstore, st_astore, st_iinc, st_sipush, st_jsr_w, st_goto, st_jsr, st_goto_w, st_if_icmp, st_ifCond, st_iadd, st_isub, st_imul, st_idiv, st_irem, st_iand, st_ior, st_ixor, st_ishl, st_ishr, st_iushr, st_ladd, st_lsub, st_lmul, st_ldiv, st_lrem, st_land, st_lor, st_lshl, st_lshr, st_i2l, st_l2i, st_i2b, st_i2s, st_i2c, st_lcmp, st_dup, st_pop, st_dup2, st_pop2, st_getfield, st_getstatic, st_checkcast, st_instanceof, st_putfield, st_putstatic, st_dstore, st_iaload, st_baload, st_laload, st_aaload, st_iastore, st_bastore, st_lastore, st_arraylength, st_dcmpg, st_dcmpl, st_fcmpg, st_fcmpl, st_monitorenter, st_tableswitch, st_multianewarray, st_invokeinterface, st_ireturn, st_lreturn, st_return_, st_ldc, st_ldc_w, st_ldc2_w, st_freturn, st_invokevirtual, st_anewarray0, st_anewarray1, st_anewarray2, st_anewarray3, st_anewarray4, st_anewarray5, st_lookupswitch, popI_c, popL_c, popR_c, popV_c, getI_c, getL_c, getR_c, lg_z, lg_s, ls1_z, ls1_o, ls1_s, ls2_z, ls2_o, ls2_s, noL_i, noL_l, noL_r, isL_i, isL_l, isL_r, tk_z, tk_s, psh_n, psh_s, ent_e, entL_n, entL_c, cc_eq, cc_ne, cc_lt, cc_ge, cc_gt, cc_le, swt_n, swt_c, lsw_n, lsw_c, mPs, NSTR_e, akds, alens, cnts, arfs, inb_e, lcm_lt, lcm_gt, lcm_ge, lcm_le, lcm_eq, lcm_a, lcm_b, Int.reduceToNat, Nat.reduceDiv, Nat.reduceMod, Nat.reduceMul, Nat.reduceAdd, Nat.reduceSub, Nat.reduceLT, Nat.reduceLeDiff, Nat.reduceEqDiff, Int.reduceNeg, Int.reduceAdd, Nat.one_mul, Nat.zero_mul, Nat.add_zero, Nat.zero_add, if_true, if_false, eq_self, true_and, and_true, true_or, or_true, false_or, or_false, List.length_cons, List.length_nil, List.cons_append, List.nil_append, List.replicate_zero, List.replicate_succ, Nat.lt_irrefl, reduceCtorEq, Bool.false_eq_true, in32, in64, Int.reduceLE, Int.reduceLT, Int.reduceEq, Int.reduceNe, not_true_eq_false, not_false_eq_true, true_implies, false_implies, implies_true, false_and, and_false, and_self, b_X12_goesRows, r_X12_goesRows]
        (repeat' with_reducible first | apply And.intro | intro _)
        all_goals try omega
        all_goals exact hK σ1 (x1.wd (by decide)) k1 e21 p1 e24 (fun x i a b => by rw [x1 53 (by decide)]; exact h53 x i a b)
    · rw [if_neg c] at hK
      have pp := pcz_pos h1 c
      have b1 := p6 n
      have b2 : (6 : Int) ^ (n + 1) = 6 ^ n * 6 := Int.pow_succ _ _
      generalize hr : (fun (p : Int) (s : RS) => gR a (lawR a 0) n (m + 1) (fu f m p) (left - 2 ^ p.toNat) s) = rec at hK
      have hr' : ∀ p s, rec p s = gR a (lawR a 0) n (m + 1) (fu f m p) (left - 2 ^ p.toNat) s := fun p s => by rw [← hr]
      have H : ∀ (q : Nat) (p scc : Int) (sbb : Int → Int) (σc : Mem), 0 ≤ p → p + q = a 2 → gF rec left q p (scc, sbb) = gF rec left (a 2).toNat 0 (sc, sb) → eqx [12, 48, 49, 50, 52, 53] σ σc → k12 σ σc → σc 12 0 21 = m → (∀ i : Int, 0 ≤ i → i < m → σc 52 0 i.toNat = f i) → σc 12 0 24 = scc → 0 ≤ scc → scc + (q : Int) * 6 ^ n ≤ 2147483647 → (0 < scc → ∀ i : Int, 0 ≤ i → i < M → σc 53 0 i.toNat = sbb i) → Rn (d + n + 4 + 1) 259 62 [mo, .inl left, .inl p] [] σc K := by
        intro q
        induction q with
        | zero =>
          intro p scc sbb σc q1 q2 hh xc kc c21 c52 c24 q5 q6 c53
          have hh : (scc, sbb) = _ := hh
          rw [← hh] at hK
          have e2 : σc 44 0 2 = a 2 := by rw [xc 44 (by decide), h44]
          have := hK σc xc kc c21 c52 c24 c53
          refine l_X12_goesRows_62 ?_
          simp only [wp_c, st_iload, st_lload, st_aload, st_istore, st_lstore, st_astore, st_iinc, st_sipush, st_jsr_w, st_goto, st_jsr, st_goto_w, st_if_icmp, st_ifCond, st_iadd, st_isub, st_imul, st_idiv, st_irem, st_iand, st_ior, st_ixor, st_ishl, st_ishr, st_iushr, st_ladd, st_lsub, st_lmul, st_ldiv, st_lrem, st_land, st_lor, st_lshl, st_lshr, st_i2l, st_l2i, st_i2b, st_i2s, st_i2c, st_lcmp, st_dup, st_pop, st_dup2, st_pop2, st_getfield, st_getstatic, st_checkcast, st_instanceof, st_putfield, st_putstatic, st_dstore, st_iaload, st_baload, st_laload, st_aaload, st_iastore, st_bastore, st_lastore, st_arraylength, st_dcmpg, st_dcmpl, st_fcmpg, st_fcmpl, st_monitorenter, st_tableswitch, st_multianewarray, st_invokeinterface, st_ireturn, st_lreturn, st_return_, st_ldc, st_ldc_w, st_ldc2_w, st_freturn, st_invokevirtual, st_anewarray0, st_anewarray1, st_anewarray2, st_anewarray3, st_anewarray4, st_anewarray5, st_lookupswitch, popI_c, popL_c, popR_c, popV_c, getI_c, getL_c, getR_c, lg_z, lg_s, ls1_z, ls1_o, ls1_s, ls2_z, ls2_o, ls2_s, noL_i, noL_l, noL_r, isL_i, isL_l, isL_r, tk_z, tk_s, psh_n, psh_s, ent_e, entL_n, entL_c, cc_eq, cc_ne, cc_lt, cc_ge, cc_gt, cc_le, swt_n, swt_c, lsw_n, lsw_c, mPs, NSTR_e, akds, alens, cnts, arfs, inb_e, lcm_lt, lcm_gt, lcm_ge, lcm_le, lcm_eq, lcm_a, lcm_b, Int.reduceToNat, Nat.reduceDiv, Nat.reduceMod, Nat.reduceMul, Nat.reduceAdd, Nat.reduceSub, Nat.reduceLT, Nat.reduceLeDiff, Nat.reduceEqDiff, Int.reduceNeg, Int.reduceAdd, Nat.one_mul, Nat.zero_mul, Nat.add_zero, Nat.zero_add, if_true, if_false, eq_self, true_and, and_true, true_or, or_true, false_or, or_false, List.length_cons, List.length_nil, List.cons_append, List.nil_append, List.replicate_zero, List.replicate_succ, Nat.lt_irrefl, reduceCtorEq, Bool.false_eq_true, in32, in64, Int.reduceLE, Int.reduceLT, Int.reduceEq, Int.reduceNe, not_true_eq_false, not_false_eq_true, true_implies, false_implies, implies_true, false_and, and_false, and_self, b_X12_goesRows, r_X12_goesRows, h_X12_goesRows_62, e2]
          (repeat' with_reducible first | apply And.intro | intro _)
          all_goals try omega
          all_goals exact this
        | succ q ih2 =>
          intro p scc sbb σc q1 q2 hh xc kc c21 c52 c24 q5 q6 c53
          have hh : gF rec left q (p + 1) (if left / 2 ^ p.toNat % 2 = 1 then rec p (scc, sbb) else (scc, sbb)) = _ := hh
          have e2 : σc 44 0 2 = a 2 := by rw [xc 44 (by decide), h44]
          have eq : ((q + 1 : Nat) : Int) * 6 ^ n = (q : Int) * 6 ^ n + 6 ^ n := by rw [Int.natCast_succ, Int.add_mul, Int.one_mul]
          have qn : 0 ≤ (q : Int) * 6 ^ n := Int.mul_nonneg (by omega) (by omega)
          rw [eq] at q6
          refine l_X12_goesRows_62 ?_
          simp only [wp_c, st_iload, st_lload, st_aload, st_istore, st_lstore, st_astore, st_iinc, st_sipush, st_jsr_w, st_goto, st_jsr, st_goto_w, st_if_icmp, st_ifCond, st_iadd, st_isub, st_imul, st_idiv, st_irem, st_iand, st_ior, st_ixor, st_ishl, st_ishr, st_iushr, st_ladd, st_lsub, st_lmul, st_ldiv, st_lrem, st_land, st_lor, st_lshl, st_lshr, st_i2l, st_l2i, st_i2b, st_i2s, st_i2c, st_lcmp, st_dup, st_pop, st_dup2, st_pop2, st_getfield, st_getstatic, st_checkcast, st_instanceof, st_putfield, st_putstatic, st_dstore, st_iaload, st_baload, st_laload, st_aaload, st_iastore, st_bastore, st_lastore, st_arraylength, st_dcmpg, st_dcmpl, st_fcmpg, st_fcmpl, st_monitorenter, st_tableswitch, st_multianewarray, st_invokeinterface, st_ireturn, st_lreturn, st_return_, st_ldc, st_ldc_w, st_ldc2_w, st_freturn, st_invokevirtual, st_anewarray0, st_anewarray1, st_anewarray2, st_anewarray3, st_anewarray4, st_anewarray5, st_lookupswitch, popI_c, popL_c, popR_c, popV_c, getI_c, getL_c, getR_c, lg_z, lg_s, ls1_z, ls1_o, ls1_s, ls2_z, ls2_o, ls2_s, noL_i, noL_l, noL_r, isL_i, isL_l, isL_r, tk_z, tk_s, psh_n, psh_s, ent_e, entL_n, entL_c, cc_eq, cc_ne, cc_lt, cc_ge, cc_gt, cc_le, swt_n, swt_c, lsw_n, lsw_c, mPs, NSTR_e, akds, alens, cnts, arfs, inb_e, lcm_lt, lcm_gt, lcm_ge, lcm_le, lcm_eq, lcm_a, lcm_b, Int.reduceToNat, Nat.reduceDiv, Nat.reduceMod, Nat.reduceMul, Nat.reduceAdd, Nat.reduceSub, Nat.reduceLT, Nat.reduceLeDiff, Nat.reduceEqDiff, Int.reduceNeg, Int.reduceAdd, Nat.one_mul, Nat.zero_mul, Nat.add_zero, Nat.zero_add, if_true, if_false, eq_self, true_and, and_true, true_or, or_true, false_or, or_false, List.length_cons, List.length_nil, List.cons_append, List.nil_append, List.replicate_zero, List.replicate_succ, Nat.lt_irrefl, reduceCtorEq, Bool.false_eq_true, in32, in64, Int.reduceLE, Int.reduceLT, Int.reduceEq, Int.reduceNe, not_true_eq_false, not_false_eq_true, true_implies, false_implies, implies_true, false_and, and_false, and_self, b_X12_goesRows, r_X12_goesRows, h_X12_goesRows_62, e2]
          (repeat' with_reducible first | apply And.intro | intro _)
          all_goals try omega
          refine q_isIn ⟨by omega, by omega⟩ ⟨by omega, by omega⟩ (fun g => ?_) (fun g => ?_)
          · rw [if_pos g, hr'] at hh
            obtain ⟨u1, u2, u3⟩ := pop_s h1 ⟨q1, by omega⟩ g
            have hs := ishl_z (z := p) ⟨q1, by omega⟩
            have m21 : mu σc 52 0 m.toNat p 12 0 21 = m := by rw [mu_k (by decide)]; exact c21
            simp only [wp_c, st_iload, st_lload, st_aload, st_istore, st_lstore, st_astore, st_iinc, st_sipush, st_jsr_w, st_goto, st_jsr, st_goto_w, st_if_icmp, st_ifCond, st_iadd, st_isub, st_imul, st_idiv, st_irem, st_iand, st_ior, st_ixor, st_ishl, st_ishr, st_iushr, st_ladd, st_lsub, st_lmul, st_ldiv, st_lrem, st_land, st_lor, st_lshl, st_lshr, st_i2l, st_l2i, st_i2b, st_i2s, st_i2c, st_lcmp, st_dup, st_pop, st_dup2, st_pop2, st_getfield, st_getstatic, st_checkcast, st_instanceof, st_putfield, st_putstatic, st_dstore, st_iaload, st_baload, st_laload, st_aaload, st_iastore, st_bastore, st_lastore, st_arraylength, st_dcmpg, st_dcmpl, st_fcmpg, st_fcmpl, st_monitorenter, st_tableswitch, st_multianewarray, st_invokeinterface, st_ireturn, st_lreturn, st_return_, st_ldc, st_ldc_w, st_ldc2_w, st_freturn, st_invokevirtual, st_anewarray0, st_anewarray1, st_anewarray2, st_anewarray3, st_anewarray4, st_anewarray5, st_lookupswitch, popI_c, popL_c, popR_c, popV_c, getI_c, getL_c, getR_c, lg_z, lg_s, ls1_z, ls1_o, ls1_s, ls2_z, ls2_o, ls2_s, noL_i, noL_l, noL_r, isL_i, isL_l, isL_r, tk_z, tk_s, psh_n, psh_s, ent_e, entL_n, entL_c, cc_eq, cc_ne, cc_lt, cc_ge, cc_gt, cc_le, swt_n, swt_c, lsw_n, lsw_c, mPs, NSTR_e, akds, alens, cnts, arfs, inb_e, lcm_lt, lcm_gt, lcm_ge, lcm_le, lcm_eq, lcm_a, lcm_b, Int.reduceToNat, Nat.reduceDiv, Nat.reduceMod, Nat.reduceMul, Nat.reduceAdd, Nat.reduceSub, Nat.reduceLT, Nat.reduceLeDiff, Nat.reduceEqDiff, Int.reduceNeg, Int.reduceAdd, Nat.one_mul, Nat.zero_mul, Nat.add_zero, Nat.zero_add, if_true, if_false, eq_self, true_and, and_true, true_or, or_true, false_or, or_false, List.length_cons, List.length_nil, List.cons_append, List.nil_append, List.replicate_zero, List.replicate_succ, Nat.lt_irrefl, reduceCtorEq, Bool.false_eq_true, in32, in64, Int.reduceLE, Int.reduceLT, Int.reduceEq, Int.reduceNe, not_true_eq_false, not_false_eq_true, true_implies, false_implies, implies_true, false_and, and_false, and_self, b_X12_goesRows, r_X12_goesRows, c21, m21, hs, u3]
            (repeat' with_reducible first | apply And.intro | intro _)
            all_goals try omega
            have gb := gR_b (lw := lawR a 0) ⟨by omega, hP.2⟩ n (m + 1) (fu f m p) (left - 2 ^ p.toNat) (scc, sbb)
            refine ih (m + 1) (fu f m p) (left - 2 ^ p.toNat) scc sbb _ _ u1 (by omega) (by omega) (by omega) ?_ ?_ (fun i a1 a2 => ?_) (fun i a1 a2 => ?_) ?_ q5 (by omega) (fun x i a1 a2 => ?_) (fun σ2 x2 k2 g21 g52 g24 g53 => ?_)
            · rw [mu_k (by decide), mu_k (by decide), xc 44 (by decide), h44]
            · rw [mu_at, if_pos rfl]
            · rw [mu_k (by decide), mu_at]
              unfold fu
              by_cases ci : i = m
              · rw [if_pos (by rw [ci]), if_pos ci]
              · rw [if_neg (by omega), if_neg ci]
                exact c52 i a1 (by omega)
            · unfold fu
              split
              · omega
              · exact hp i a1 (by omega)
            · rw [mu_at, if_neg (by decide), mu_k (by decide)]
              exact c24
            · rw [mu_k (by decide), mu_k (by decide)]
              exact c53 x i a1 a2
            · generalize gR a (lawR a 0) n (m + 1) (fu f m p) (left - 2 ^ p.toNat) (scc, sbb) = R at hh gb g24 g53
              obtain ⟨rc, rb⟩ := R
              have gb : scc ≤ rc ∧ rc ≤ scc + 6 ^ n := gb
              simp only [wp_c, st_iload, st_lload, st_aload, st_istore, st_lstore, st_astore, st_iinc, st_sipush, st_jsr_w, st_goto, st_jsr, st_goto_w, st_if_icmp, st_ifCond, st_iadd, st_isub, st_imul, st_idiv, st_irem, st_iand, st_ior, st_ixor, st_ishl, st_ishr, st_iushr, st_ladd, st_lsub, st_lmul, st_ldiv, st_lrem, st_land, st_lor, st_lshl, st_lshr, st_i2l, st_l2i, st_i2b, st_i2s, st_i2c, st_lcmp, st_dup, st_pop, st_dup2, st_pop2, st_getfield, st_getstatic, st_checkcast, st_instanceof, st_putfield, st_putstatic, st_dstore, st_iaload, st_baload, st_laload, st_aaload, st_iastore, st_bastore, st_lastore, st_arraylength, st_dcmpg, st_dcmpl, st_fcmpg, st_fcmpl, st_monitorenter, st_tableswitch, st_multianewarray, st_invokeinterface, st_ireturn, st_lreturn, st_return_, st_ldc, st_ldc_w, st_ldc2_w, st_freturn, st_invokevirtual, st_anewarray0, st_anewarray1, st_anewarray2, st_anewarray3, st_anewarray4, st_anewarray5, st_lookupswitch, popI_c, popL_c, popR_c, popV_c, getI_c, getL_c, getR_c, lg_z, lg_s, ls1_z, ls1_o, ls1_s, ls2_z, ls2_o, ls2_s, noL_i, noL_l, noL_r, isL_i, isL_l, isL_r, tk_z, tk_s, psh_n, psh_s, ent_e, entL_n, entL_c, cc_eq, cc_ne, cc_lt, cc_ge, cc_gt, cc_le, swt_n, swt_c, lsw_n, lsw_c, mPs, NSTR_e, akds, alens, cnts, arfs, inb_e, lcm_lt, lcm_gt, lcm_ge, lcm_le, lcm_eq, lcm_a, lcm_b, Int.reduceToNat, Nat.reduceDiv, Nat.reduceMod, Nat.reduceMul, Nat.reduceAdd, Nat.reduceSub, Nat.reduceLT, Nat.reduceLeDiff, Nat.reduceEqDiff, Int.reduceNeg, Int.reduceAdd, Nat.one_mul, Nat.zero_mul, Nat.add_zero, Nat.zero_add, if_true, if_false, eq_self, true_and, and_true, true_or, or_true, false_or, or_false, List.length_cons, List.length_nil, List.cons_append, List.nil_append, List.replicate_zero, List.replicate_succ, Nat.lt_irrefl, reduceCtorEq, Bool.false_eq_true, in32, in64, Int.reduceLE, Int.reduceLT, Int.reduceEq, Int.reduceNe, not_true_eq_false, not_false_eq_true, true_implies, false_implies, implies_true, false_and, and_false, and_self, b_X12_goesRows, r_X12_goesRows, g21]
              (repeat' with_reducible first | apply And.intro | intro _)
              all_goals try omega
              refine ih2 (p + 1) rc rb _ (by omega) (by omega) hh (eqx_mu ((eqx_mu (eqx_mu xc (by decide)) (by decide)).tr x2) (by decide)) (k12.mu ((k12.mu (kc.x (L := [52]) (eqx_mu eqx.rf (by decide)) (by decide)) (by decide)).tr k2) (by decide)) ?_ (fun i a1 a2 => ?_) ?_ (by omega) (by omega) (fun x i a1 a2 => ?_)
              · rw [mu_at, if_pos rfl]
                omega
              · rw [mu_k (by decide), g52 i a1 (by omega)]
                unfold fu
                rw [if_neg (by omega)]
              · rw [mu_at, if_neg (by decide)]
                exact g24
              · rw [mu_k (by decide)]
                exact g53 x i a1 a2
          · rw [if_neg (by omega)] at hh
            have := ih2 (p + 1) scc sbb σc (by omega) (by omega) hh xc kc c21 c52 c24 q5 (by omega) c53
            simp only [wp_c, st_iload, st_lload, st_aload, st_istore, st_lstore, st_astore, st_iinc, st_sipush, st_jsr_w, st_goto, st_jsr, st_goto_w, st_if_icmp, st_ifCond, st_iadd, st_isub, st_imul, st_idiv, st_irem, st_iand, st_ior, st_ixor, st_ishl, st_ishr, st_iushr, st_ladd, st_lsub, st_lmul, st_ldiv, st_lrem, st_land, st_lor, st_lshl, st_lshr, st_i2l, st_l2i, st_i2b, st_i2s, st_i2c, st_lcmp, st_dup, st_pop, st_dup2, st_pop2, st_getfield, st_getstatic, st_checkcast, st_instanceof, st_putfield, st_putstatic, st_dstore, st_iaload, st_baload, st_laload, st_aaload, st_iastore, st_bastore, st_lastore, st_arraylength, st_dcmpg, st_dcmpl, st_fcmpg, st_fcmpl, st_monitorenter, st_tableswitch, st_multianewarray, st_invokeinterface, st_ireturn, st_lreturn, st_return_, st_ldc, st_ldc_w, st_ldc2_w, st_freturn, st_invokevirtual, st_anewarray0, st_anewarray1, st_anewarray2, st_anewarray3, st_anewarray4, st_anewarray5, st_lookupswitch, popI_c, popL_c, popR_c, popV_c, getI_c, getL_c, getR_c, lg_z, lg_s, ls1_z, ls1_o, ls1_s, ls2_z, ls2_o, ls2_s, noL_i, noL_l, noL_r, isL_i, isL_l, isL_r, tk_z, tk_s, psh_n, psh_s, ent_e, entL_n, entL_c, cc_eq, cc_ne, cc_lt, cc_ge, cc_gt, cc_le, swt_n, swt_c, lsw_n, lsw_c, mPs, NSTR_e, akds, alens, cnts, arfs, inb_e, lcm_lt, lcm_gt, lcm_ge, lcm_le, lcm_eq, lcm_a, lcm_b, Int.reduceToNat, Nat.reduceDiv, Nat.reduceMod, Nat.reduceMul, Nat.reduceAdd, Nat.reduceSub, Nat.reduceLT, Nat.reduceLeDiff, Nat.reduceEqDiff, Int.reduceNeg, Int.reduceAdd, Nat.one_mul, Nat.zero_mul, Nat.add_zero, Nat.zero_add, if_true, if_false, eq_self, true_and, and_true, true_or, or_true, false_or, or_false, List.length_cons, List.length_nil, List.cons_append, List.nil_append, List.replicate_zero, List.replicate_succ, Nat.lt_irrefl, reduceCtorEq, Bool.false_eq_true, in32, in64, Int.reduceLE, Int.reduceLT, Int.reduceEq, Int.reduceNe, not_true_eq_false, not_false_eq_true, true_implies, false_implies, implies_true, false_and, and_false, and_self, b_X12_goesRows, r_X12_goesRows]
            (repeat' with_reducible first | apply And.intro | intro _)
            all_goals try omega
            all_goals exact this
      have e : (((a 2).toNat : Nat) : Int) * 6 ^ n ≤ 6 * 6 ^ n := Int.mul_le_mul_of_nonneg_right (by omega) (by omega)
      have := H (a 2).toNat 0 sc sb σ (by omega) (by omega) rfl eqx.rf k12.rf h21 h52 h24 h5 (by omega) h53
      refine e_X12_goesRows (Nat.le_of_ble_eq_true rfl) ?_
      simp only [wp_c, st_iload, st_lload, st_aload, st_istore, st_lstore, st_astore, st_iinc, st_sipush, st_jsr_w, st_goto, st_jsr, st_goto_w, st_if_icmp, st_ifCond, st_iadd, st_isub, st_imul, st_idiv, st_irem, st_iand, st_ior, st_ixor, st_ishl, st_ishr, st_iushr, st_ladd, st_lsub, st_lmul, st_ldiv, st_lrem, st_land, st_lor, st_lshl, st_lshr, st_i2l, st_l2i, st_i2b, st_i2s, st_i2c, st_lcmp, st_dup, st_pop, st_dup2, st_pop2, st_getfield, st_getstatic, st_checkcast, st_instanceof, st_putfield, st_putstatic, st_dstore, st_iaload, st_baload, st_laload, st_aaload, st_iastore, st_bastore, st_lastore, st_arraylength, st_dcmpg, st_dcmpl, st_fcmpg, st_fcmpl, st_monitorenter, st_tableswitch, st_multianewarray, st_invokeinterface, st_ireturn, st_lreturn, st_return_, st_ldc, st_ldc_w, st_ldc2_w, st_freturn, st_invokevirtual, st_anewarray0, st_anewarray1, st_anewarray2, st_anewarray3, st_anewarray4, st_anewarray5, st_lookupswitch, popI_c, popL_c, popR_c, popV_c, getI_c, getL_c, getR_c, lg_z, lg_s, ls1_z, ls1_o, ls1_s, ls2_z, ls2_o, ls2_s, noL_i, noL_l, noL_r, isL_i, isL_l, isL_r, tk_z, tk_s, psh_n, psh_s, ent_e, entL_n, entL_c, cc_eq, cc_ne, cc_lt, cc_ge, cc_gt, cc_le, swt_n, swt_c, lsw_n, lsw_c, mPs, NSTR_e, akds, alens, cnts, arfs, inb_e, lcm_lt, lcm_gt, lcm_ge, lcm_le, lcm_eq, lcm_a, lcm_b, Int.reduceToNat, Nat.reduceDiv, Nat.reduceMod, Nat.reduceMul, Nat.reduceAdd, Nat.reduceSub, Nat.reduceLT, Nat.reduceLeDiff, Nat.reduceEqDiff, Int.reduceNeg, Int.reduceAdd, Nat.one_mul, Nat.zero_mul, Nat.add_zero, Nat.zero_add, if_true, if_false, eq_self, true_and, and_true, true_or, or_true, false_or, or_false, List.length_cons, List.length_nil, List.cons_append, List.nil_append, List.replicate_zero, List.replicate_succ, Nat.lt_irrefl, reduceCtorEq, Bool.false_eq_true, in32, in64, Int.reduceLE, Int.reduceLT, Int.reduceEq, Int.reduceNe, not_true_eq_false, not_false_eq_true, true_implies, false_implies, implies_true, false_and, and_false, and_self, b_X12_goesRows, r_X12_goesRows]
      (repeat' with_reducible first | apply And.intro | intro _)
      all_goals try omega
      all_goals exact this
end ORDR
