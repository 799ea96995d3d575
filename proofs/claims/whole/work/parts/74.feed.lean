/-! 74: feed -/
/-- the k-th byte of an int, from the left, 0 to 255 -/
def bt (v k : Int) : Int := if k = 0 then v / 16777216 % 256 else if k = 1 then v / 65536 % 256 else if k = 2 then v / 256 % 256 else v % 256
theorem bt_b (v k : Int) : 0 ≤ bt v k ∧ bt v k < 256 := by
  unfold bt
  (repeat' split) <;> omega
theorem iand_255 {a : Int} (ha : in32 a) : iand a 255 = a % 256 := by
  unfold in32 at ha
  have h : ((Int32.ofInt a &&& Int32.ofInt 255).toBitVec) = BitVec.ofInt 32 (a % 256) := by
    have e1 : (Int32.ofInt a).toBitVec = BitVec.ofInt 32 a := rfl
    rw [Int32.toBitVec_and, e1, show (Int32.ofInt 255).toBitVec = BitVec.ofNat 32 255 from rfl]
    apply BitVec.eq_of_toNat_eq
    rw [BitVec.toNat_and, BitVec.toNat_ofInt, BitVec.toNat_ofInt, BitVec.toNat_ofNat]
    rw [show 255 % 2 ^ 32 = 2 ^ 8 - 1 by decide, Nat.and_two_pow_sub_one_eq_mod]
    have : ((2 ^ 32 : Nat) : Int) = 4294967296 := by decide
    rw [this]
    omega
  unfold iand
  show (Int32.ofInt a &&& Int32.ofInt 255).toBitVec.toInt = _
  rw [h, BitVec.toInt_ofInt]
  exact Int.bmod_eq_of_le (by omega) (by omega)
theorem ishr_l {v : Int} (hv : in32 v) : ishr v 24 = v / 16777216 ∧ ishr v 16 = v / 65536 ∧ ishr v 8 = v / 256 ∧ ishr v 0 = v := by
  have h1 := ishr_n (a := v) (k := 24) hv (by decide)
  have h2 := ishr_n (a := v) (k := 16) hv (by decide)
  have h3 := ishr_n (a := v) (k := 8) hv (by decide)
  have h4 := ishr_n (a := v) (k := 0) hv (by decide)
  refine ⟨h1, h2, h3, ?_⟩
  rw [show ((2 : Int) ^ 0) = 1 by decide, Int.ediv_one] at h4
  exact h4
theorem bt_ref {v r : Int} (hv : in32 v) (hr : 0 ≤ r ∧ r < 4) : iand (ishr v (24 - 8 * r)) 255 = bt v r := by
  obtain ⟨h1, h2, h3, h4⟩ := ishr_l hv
  have hv' := hv
  unfold in32 at hv'
  have hr' : r = 0 ∨ r = 1 ∨ r = 2 ∨ r = 3 := by omega
  rcases hr' with rfl | rfl | rfl | rfl
  · rw [show (24 : Int) - 8 * 0 = 24 by decide, h1, iand_255 ⟨by omega, by omega⟩]; rfl
  · rw [show (24 : Int) - 8 * 1 = 16 by decide, h2, iand_255 ⟨by omega, by omega⟩]; rfl
  · rw [show (24 : Int) - 8 * 2 = 8 by decide, h3, iand_255 ⟨by omega, by omega⟩]; rfl
  · rw [show (24 : Int) - 8 * 3 = 0 by decide, h4, iand_255 hv]; rfl
theorem iushr_0 {v : Int} (hv : in32 v) : iushr v 0 = v := by
  unfold iushr
  have e : ((Int32.ofInt v).toUInt32 >>> ((Int32.ofInt 0).toUInt32 &&& Int32.toUInt32 31)) = (Int32.ofInt v).toUInt32 := by
    have : ((Int32.ofInt 0).toUInt32 &&& Int32.toUInt32 31) = 0 := by decide
    rw [this]
    simp
  rw [e]
  show (Int32.ofInt v).toInt = v
  exact i32 hv
theorem bt_cls {v r : Int} (hv : in32 v) (hr : 0 ≤ r ∧ r < 4) : i2b (iushr v (24 - 8 * r)) = (bt v r).bmod 256 := by
  have hv' := hv
  unfold in32 at hv'
  have h1 := iushr_n (a := v) (k := 24) (by decide)
  have h2 := iushr_n (a := v) (k := 16) (by decide)
  have h3 := iushr_n (a := v) (k := 8) (by decide)
  have key : ∀ x y : Int, x % 256 = y → x.bmod 256 = y.bmod 256 := fun x y h => by
    rw [← h]
    have := Int.emod_bmod (x := x) (n := 256)
    exact this.symm
  have hr' : r = 0 ∨ r = 1 ∨ r = 2 ∨ r = 3 := by omega
  unfold i2b
  rcases hr' with rfl | rfl | rfl | rfl
  · rw [show (24 : Int) - 8 * 0 = ((24 : Nat) : Int) by decide, h1]
    refine key _ _ ?_
    show v % 4294967296 / 16777216 % 256 = v / 16777216 % 256
    omega
  · rw [show (24 : Int) - 8 * 1 = ((16 : Nat) : Int) by decide, h2]
    refine key _ _ ?_
    show v % 4294967296 / 65536 % 256 = v / 65536 % 256
    omega
  · rw [show (24 : Int) - 8 * 2 = ((8 : Nat) : Int) by decide, h3]
    refine key _ _ ?_
    show v % 4294967296 / 256 % 256 = v / 256 % 256
    omega
  · rw [show (24 : Int) - 8 * 3 = 0 by decide, iushr_0 hv]
    refine key _ _ ?_
    rfl
/-- the k-th of twenty bytes of five ints -/
def fdB (v1 v2 v3 v4 v5 k : Int) : Int := bt (if k < 4 then v1 else if k < 8 then v2 else if k < 12 then v3 else if k < 16 then v4 else v5) (k % 4)
section FEED
variable {d : Nat} {σ : Mem} {K : Option AV → Mem → Prop}
theorem q_feed {v1 v2 v3 v4 v5 T : Int} (h1 : in32 v1) (h2 : in32 v2) (h3 : in32 v3) (h4 : in32 v4) (h5 : in32 v5) (hT : T = σ 12 0 5) (hb : 0 ≤ T ∧ T ≤ 900)
    (hn : 880 < T → ∀ σ', rfw σ σ' → σ' 44 = σ 44 → K (some (.inl (-5))) σ')
    (h0 : T ≤ 880 → ∀ σ', eqx [12, 46] σ σ' → σ' 12 0 13 = σ 12 0 13 → σ' 12 0 14 = σ 12 0 14 → σ' 12 0 5 = T + 20 → (∀ j : Nat, σ' 46 0 j = if T ≤ (j : Int) ∧ (j : Int) < T + 20 then fdB v1 v2 v3 v4 v5 (j - T) else σ 46 0 j) → K (some (.inl (T + 20))) σ') : Ev (d + 1) 160 [mo, .inl v1, .inl v2, .inl v3, .inl v4, .inl v5] σ K := by
  have e5 : mu σ 12 0 0 0 12 0 5 = T := by rw [mu_at, if_neg (by decide), hT]
  have e13 : mu σ 12 0 0 0 12 0 13 = σ 12 0 13 := by rw [mu_at, if_neg (by decide)]
  have e14 : mu σ 12 0 0 0 12 0 14 = σ 12 0 14 := by rw [mu_at, if_neg (by decide)]
  have e46 : mu σ 12 0 0 0 46 = σ 46 := mu_k (by decide)
  refine e_X12_feed (Nat.le_of_ble_eq_true rfl) ?_
  simp only [wp_c, st_iload, st_lload, st_aload, st_istore, st_lstore, st_astore, st_iinc, st_sipush, st_jsr_w, st_goto, st_jsr, st_goto_w, st_if_icmp, st_ifCond, st_iadd, st_isub, st_imul, st_idiv, st_irem, st_iand, st_ior, st_ixor, st_ishl, st_ishr, st_iushr, st_ladd, st_lsub, st_lmul, st_ldiv, st_lrem, st_land, st_lor, st_lshl, st_lshr, st_i2l, st_l2i, st_i2b, st_i2s, st_i2c, st_lcmp, st_dup, st_pop, st_dup2, st_pop2, st_getfield, st_getstatic, st_checkcast, st_instanceof, st_putfield, st_putstatic, st_dstore, st_iaload, st_baload, st_laload, st_aaload, st_iastore, st_bastore, st_lastore, st_arraylength, st_dcmpg, st_dcmpl, st_fcmpg, st_fcmpl, st_monitorenter, st_tableswitch, st_multianewarray, st_invokeinterface, st_ireturn, st_lreturn, st_return_, st_ldc, st_ldc_w, st_ldc2_w, st_freturn, st_invokevirtual, st_anewarray0, st_anewarray1, st_anewarray2, st_anewarray3, st_anewarray4, st_anewarray5, st_lookupswitch, popI_c, popL_c, popR_c, popV_c, getI_c, getL_c, getR_c, lg_z, lg_s, ls1_z, ls1_o, ls1_s, ls2_z, ls2_o, ls2_s, noL_i, noL_l, noL_r, isL_i, isL_l, isL_r, tk_z, tk_s, psh_n, psh_s, ent_e, entL_n, entL_c, cc_eq, cc_ne, cc_lt, cc_ge, cc_gt, cc_le, swt_n, swt_c, lsw_n, lsw_c, mPs, NSTR_e, akds, alens, cnts, arfs, inb_e, lcm_lt, lcm_gt, lcm_ge, lcm_le, lcm_eq, lcm_a, lcm_b, Int.reduceToNat, Nat.reduceDiv, Nat.reduceMod, Nat.reduceMul, Nat.reduceAdd, Nat.reduceSub, Nat.reduceLT, Nat.reduceLeDiff, Nat.reduceEqDiff, Int.reduceNeg, Int.reduceAdd, Nat.one_mul, Nat.zero_mul, Nat.add_zero, Nat.zero_add, if_true, if_false, eq_self, true_and, and_true, true_or, or_true, false_or, or_false, List.length_cons, List.length_nil, List.cons_append, List.nil_append, List.replicate_zero, List.replicate_succ, Nat.lt_irrefl, reduceCtorEq, Bool.false_eq_true, in32, in64, Int.reduceLE, Int.reduceLT, Int.reduceEq, Int.reduceNe, not_true_eq_false, not_false_eq_true, true_implies, false_implies, implies_true, false_and, and_false, and_self, b_X12_feed, r_X12_feed, e5]
  (repeat' with_reducible first | apply And.intro | intro _)
  all_goals try omega
  · refine loop_up (S := AV × Mem) (I := fun z s => 0 ≤ z ∧ isL s.1 = false ∧ eqx [12, 46] σ s.2 ∧ s.2 12 0 13 = σ 12 0 13 ∧ s.2 12 0 14 = σ 12 0 14 ∧ s.2 12 0 5 = T + z ∧ ∀ j : Nat, s.2 46 0 j = if T ≤ (j : Int) ∧ (j : Int) < T + z then fdB v1 v2 v3 v4 v5 (j - T) else σ 46 0 j) (G := fun z s => Rn (d + 1) 160 24 [mo, .inl v1, .inl v2, .inl v3, .inl v4, .inl v5, .inl z, s.1] [] s.2 K) (P := 20) ?_ ?_ 0 (.inr (.inr none), mu σ 12 0 0 0) (by decide) ⟨Int.le_refl _, rfl, eqx_mu eqx.rf (by decide), e13, e14, by show mu σ 12 0 0 0 12 0 5 = T + 0; rw [e5]; omega, fun j => by show mu σ 12 0 0 0 46 0 j = _; rw [e46, if_neg (by omega)]⟩
    · rintro ⟨x, τ⟩ ⟨g1, gx, g2, g3, g4, g5, g6⟩
      have g5 : τ 12 0 5 = T + 20 := g5
      refine l_X12_feed_24 ?_
      simp only [wp_c, st_iload, st_lload, st_aload, st_istore, st_lstore, st_astore, st_iinc, st_sipush, st_jsr_w, st_goto, st_jsr, st_goto_w, st_if_icmp, st_ifCond, st_iadd, st_isub, st_imul, st_idiv, st_irem, st_iand, st_ior, st_ixor, st_ishl, st_ishr, st_iushr, st_ladd, st_lsub, st_lmul, st_ldiv, st_lrem, st_land, st_lor, st_lshl, st_lshr, st_i2l, st_l2i, st_i2b, st_i2s, st_i2c, st_lcmp, st_dup, st_pop, st_dup2, st_pop2, st_getfield, st_getstatic, st_checkcast, st_instanceof, st_putfield, st_putstatic, st_dstore, st_iaload, st_baload, st_laload, st_aaload, st_iastore, st_bastore, st_lastore, st_arraylength, st_dcmpg, st_dcmpl, st_fcmpg, st_fcmpl, st_monitorenter, st_tableswitch, st_multianewarray, st_invokeinterface, st_ireturn, st_lreturn, st_return_, st_ldc, st_ldc_w, st_ldc2_w, st_freturn, st_invokevirtual, st_anewarray0, st_anewarray1, st_anewarray2, st_anewarray3, st_anewarray4, st_anewarray5, st_lookupswitch, popI_c, popL_c, popR_c, popV_c, getI_c, getL_c, getR_c, lg_z, lg_s, ls1_z, ls1_o, ls1_s, ls2_z, ls2_o, ls2_s, noL_i, noL_l, noL_r, isL_i, isL_l, isL_r, tk_z, tk_s, psh_n, psh_s, ent_e, entL_n, entL_c, cc_eq, cc_ne, cc_lt, cc_ge, cc_gt, cc_le, swt_n, swt_c, lsw_n, lsw_c, mPs, NSTR_e, akds, alens, cnts, arfs, inb_e, lcm_lt, lcm_gt, lcm_ge, lcm_le, lcm_eq, lcm_a, lcm_b, Int.reduceToNat, Nat.reduceDiv, Nat.reduceMod, Nat.reduceMul, Nat.reduceAdd, Nat.reduceSub, Nat.reduceLT, Nat.reduceLeDiff, Nat.reduceEqDiff, Int.reduceNeg, Int.reduceAdd, Nat.one_mul, Nat.zero_mul, Nat.add_zero, Nat.zero_add, if_true, if_false, eq_self, true_and, and_true, true_or, or_true, false_or, or_false, List.length_cons, List.length_nil, List.cons_append, List.nil_append, List.replicate_zero, List.replicate_succ, Nat.lt_irrefl, reduceCtorEq, Bool.false_eq_true, in32, in64, Int.reduceLE, Int.reduceLT, Int.reduceEq, Int.reduceNe, not_true_eq_false, not_false_eq_true, true_implies, false_implies, implies_true, false_and, and_false, and_self, b_X12_feed, r_X12_feed, h_X12_feed_24, g5]
      (repeat' with_reducible first | apply And.intro | intro _)
      all_goals try omega
      all_goals exact h0 (by omega) τ g2 g3 g4 g5 g6
    · rintro z ⟨x, τ⟩ hz ⟨g1, gx, g2, g3, g4, g5, g6⟩ ih
      have g2 : eqx [12, 46] σ τ := g2
      have g3 : τ 12 0 13 = σ 12 0 13 := g3
      have g4 : τ 12 0 14 = σ 12 0 14 := g4
      have g5 : τ 12 0 5 = T + z := g5
      have g6 : ∀ j : Nat, τ 46 0 j = if T ≤ (j : Int) ∧ (j : Int) < T + z then fdB v1 v2 v3 v4 v5 (j - T) else σ 46 0 j := g6
      have et : z.tmod 4 = z % 4 := tm g1
      have r4 : 0 ≤ z % 4 ∧ z % 4 < 4 := by omega
      have f1 := bt_ref h1 r4
      have f2 := bt_ref h2 r4
      have f3 := bt_ref h3 r4
      have f4 := bt_ref h4 r4
      have f5 := bt_ref h5 r4
      have key : ∀ (v : Int), v = fdB v1 v2 v3 v4 v5 z → ∀ x' : AV, isL x' = false → Rn (d + 1) 160 24 [mo, .inl v1, .inl v2, .inl v3, .inl v4, .inl v5, .inl (z + 1), x'] [] (mu (mu τ 46 0 (T + z).toNat v) 12 0 5 (T + z + 1)) K := fun v hv x' hx' => by
        refine ih (x', _) ⟨by omega, hx', eqx_mu (eqx_mu g2 (by decide)) (by decide), ?_, ?_, ?_, fun j => ?_⟩
        · show mu (mu τ 46 0 (T + z).toNat v) 12 0 5 (T + z + 1) 12 0 13 = _
          rw [mu_at, if_neg (by decide), mu_k (by decide)]; exact g3
        · show mu (mu τ 46 0 (T + z).toNat v) 12 0 5 (T + z + 1) 12 0 14 = _
          rw [mu_at, if_neg (by decide), mu_k (by decide)]; exact g4
        · show mu (mu τ 46 0 (T + z).toNat v) 12 0 5 (T + z + 1) 12 0 5 = _
          rw [mu_at, if_pos rfl]; omega
        · show mu (mu τ 46 0 (T + z).toNat v) 12 0 5 (T + z + 1) 46 0 j = _
          rw [mu_k (by decide), mu_at, g6 j]
          by_cases cj : j = (T + z).toNat
          · rw [if_pos cj, if_pos ⟨by omega, by omega⟩, show (j : Int) - T = z by omega, hv]
          · rw [if_neg cj]
            by_cases cj2 : T ≤ (j : Int) ∧ (j : Int) < T + z
            · rw [if_pos cj2, if_pos ⟨cj2.1, by omega⟩]
            · rw [if_neg cj2, if_neg (by omega)]
      have m5 : ∀ v : Int, mu τ 46 0 (T + z).toNat v 12 0 5 = T + z := fun v => by rw [mu_k (by decide)]; exact g5
      refine l_X12_feed_24 ?_
      simp only [wp_c, st_iload, st_lload, st_aload, st_istore, st_lstore, st_astore, st_iinc, st_sipush, st_jsr_w, st_goto, st_jsr, st_goto_w, st_if_icmp, st_ifCond, st_iadd, st_isub, st_imul, st_idiv, st_irem, st_iand, st_ior, st_ixor, st_ishl, st_ishr, st_iushr, st_ladd, st_lsub, st_lmul, st_ldiv, st_lrem, st_land, st_lor, st_lshl, st_lshr, st_i2l, st_l2i, st_i2b, st_i2s, st_i2c, st_lcmp, st_dup, st_pop, st_dup2, st_pop2, st_getfield, st_getstatic, st_checkcast, st_instanceof, st_putfield, st_putstatic, st_dstore, st_iaload, st_baload, st_laload, st_aaload, st_iastore, st_bastore, st_lastore, st_arraylength, st_dcmpg, st_dcmpl, st_fcmpg, st_fcmpl, st_monitorenter, st_tableswitch, st_multianewarray, st_invokeinterface, st_ireturn, st_lreturn, st_return_, st_ldc, st_ldc_w, st_ldc2_w, st_freturn, st_invokevirtual, st_anewarray0, st_anewarray1, st_anewarray2, st_anewarray3, st_anewarray4, st_anewarray5, st_lookupswitch, popI_c, popL_c, popR_c, popV_c, getI_c, getL_c, getR_c, lg_z, lg_s, ls1_z, ls1_o, ls1_s, ls2_z, ls2_o, ls2_s, noL_i, noL_l, noL_r, isL_i, isL_l, isL_r, tk_z, tk_s, psh_n, psh_s, ent_e, entL_n, entL_c, cc_eq, cc_ne, cc_lt, cc_ge, cc_gt, cc_le, swt_n, swt_c, lsw_n, lsw_c, mPs, NSTR_e, akds, alens, cnts, arfs, inb_e, lcm_lt, lcm_gt, lcm_ge, lcm_le, lcm_eq, lcm_a, lcm_b, Int.reduceToNat, Nat.reduceDiv, Nat.reduceMod, Nat.reduceMul, Nat.reduceAdd, Nat.reduceSub, Nat.reduceLT, Nat.reduceLeDiff, Nat.reduceEqDiff, Int.reduceNeg, Int.reduceAdd, Nat.one_mul, Nat.zero_mul, Nat.add_zero, Nat.zero_add, if_true, if_false, eq_self, true_and, and_true, true_or, or_true, false_or, or_false, List.length_cons, List.length_nil, List.cons_append, List.nil_append, List.replicate_zero, List.replicate_succ, Nat.lt_irrefl, reduceCtorEq, Bool.false_eq_true, in32, in64, Int.reduceLE, Int.reduceLT, Int.reduceEq, Int.reduceNe, not_true_eq_false, not_false_eq_true, true_implies, false_implies, implies_true, false_and, and_false, and_self, b_X12_feed, r_X12_feed, h_X12_feed_24, g5, et, f1, f2, f3, f4, f5, m5]
      (repeat' with_reducible first | apply And.intro | intro _)
      all_goals try omega
      all_goals refine key _ ?_ _ rfl
      all_goals unfold fdB
      · rw [if_neg (by omega), if_neg (by omega), if_neg (by omega), if_neg (by omega)]
      · rw [if_neg (by omega), if_neg (by omega), if_neg (by omega), if_pos (by omega)]
      · rw [if_neg (by omega), if_neg (by omega), if_pos (by omega)]
      · rw [if_neg (by omega), if_pos (by omega)]
      · rw [if_pos (by omega)]
  · exact hn (by omega) _ rfm.st.w (mu_k (by decide))
theorem c_feedInt {v T : Int} (hv : in32 v) (hT : T = σ 11 0 13) (hb : 0 ≤ T ∧ T + 4 ≤ 900) (hK : ∀ σ', eqx [11, 40] σ σ' → σ' 11 0 13 = T + 4 → (∀ j : Nat, σ' 40 0 j = if T ≤ (j : Int) ∧ (j : Int) < T + 4 then (bt v (j - T)).bmod 256 else σ 40 0 j) → K none σ') : Ev (d + 1) 107 [bo, .inl v] σ K := by
  have k6 : isK 40 = true ∧ ¬ 40 < 13 ∧ aet 40 < 7 := by decide
  have H : ∀ (n : Nat) (r : Int) (τ : Mem), 0 ≤ r → r + n = 4 → eqx [11, 40] σ τ → τ 11 0 13 = T + r → (∀ j : Nat, τ 40 0 j = if T ≤ (j : Int) ∧ (j : Int) < T + r then (bt v (j - T)).bmod 256 else σ 40 0 j) → Rn (d + 1) 107 3 [bo, .inl v, .inl (24 - 8 * r)] [] τ K := by
    intro n
    induction n with
    | zero =>
      intro r τ a1 a2 g2 g5 g6
      have er : r = 4 := by omega
      subst er
      refine l_X11_feedInt_3 ?_
      simp only [wp_c, st_iload, st_lload, st_aload, st_istore, st_lstore, st_astore, st_iinc, st_sipush, st_jsr_w, st_goto, st_jsr, st_goto_w, st_if_icmp, st_ifCond, st_iadd, st_isub, st_imul, st_idiv, st_irem, st_iand, st_ior, st_ixor, st_ishl, st_ishr, st_iushr, st_ladd, st_lsub, st_lmul, st_ldiv, st_lrem, st_land, st_lor, st_lshl, st_lshr, st_i2l, st_l2i, st_i2b, st_i2s, st_i2c, st_lcmp, st_dup, st_pop, st_dup2, st_pop2, st_getfield, st_getstatic, st_checkcast, st_instanceof, st_putfield, st_putstatic, st_dstore, st_iaload, st_baload, st_laload, st_aaload, st_iastore, st_bastore, st_lastore, st_arraylength, st_dcmpg, st_dcmpl, st_fcmpg, st_fcmpl, st_monitorenter, st_tableswitch, st_multianewarray, st_invokeinterface, st_ireturn, st_lreturn, st_return_, st_ldc, st_ldc_w, st_ldc2_w, st_freturn, st_invokevirtual, st_anewarray0, st_anewarray1, st_anewarray2, st_anewarray3, st_anewarray4, st_anewarray5, st_lookupswitch, popI_c, popL_c, popR_c, popV_c, getI_c, getL_c, getR_c, lg_z, lg_s, ls1_z, ls1_o, ls1_s, ls2_z, ls2_o, ls2_s, noL_i, noL_l, noL_r, isL_i, isL_l, isL_r, tk_z, tk_s, psh_n, psh_s, ent_e, entL_n, entL_c, cc_eq, cc_ne, cc_lt, cc_ge, cc_gt, cc_le, swt_n, swt_c, lsw_n, lsw_c, mPs, NSTR_e, akds, alens, cnts, arfs, inb_e, lcm_lt, lcm_gt, lcm_ge, lcm_le, lcm_eq, lcm_a, lcm_b, Int.reduceToNat, Nat.reduceDiv, Nat.reduceMod, Nat.reduceMul, Nat.reduceAdd, Nat.reduceSub, Nat.reduceLT, Nat.reduceLeDiff, Nat.reduceEqDiff, Int.reduceNeg, Int.reduceAdd, Nat.one_mul, Nat.zero_mul, Nat.add_zero, Nat.zero_add, if_true, if_false, eq_self, true_and, and_true, true_or, or_true, false_or, or_false, List.length_cons, List.length_nil, List.cons_append, List.nil_append, List.replicate_zero, List.replicate_succ, Nat.lt_irrefl, reduceCtorEq, Bool.false_eq_true, in32, in64, Int.reduceLE, Int.reduceLT, Int.reduceEq, Int.reduceNe, not_true_eq_false, not_false_eq_true, true_implies, false_implies, implies_true, false_and, and_false, and_self, b_X11_feedInt, r_X11_feedInt, h_X11_feedInt_3]
      (repeat' with_reducible first | apply And.intro | intro _)
      all_goals try omega
      all_goals exact hK τ g2 g5 g6
    | succ n ih =>
      intro r τ a1 a2 g2 g5 g6
      have fb := bt_cls hv (r := r) ⟨a1, by omega⟩
      have b1 := Int.bmod_lt (x := bt v r) (m := 256) (by decide)
      have b2 := Int.le_bmod (x := bt v r) (m := 256) (by decide)
      have m5 : ∀ u : Int, mu τ 40 0 (T + r).toNat u 11 0 13 = T + r := fun u => by rw [mu_k (by decide)]; exact g5
      have es : 24 - 8 * r + -8 = 24 - 8 * (r + 1) := by omega
      refine l_X11_feedInt_3 ?_
      simp only [wp_c, st_iload, st_lload, st_aload, st_istore, st_lstore, st_astore, st_iinc, st_sipush, st_jsr_w, st_goto, st_jsr, st_goto_w, st_if_icmp, st_ifCond, st_iadd, st_isub, st_imul, st_idiv, st_irem, st_iand, st_ior, st_ixor, st_ishl, st_ishr, st_iushr, st_ladd, st_lsub, st_lmul, st_ldiv, st_lrem, st_land, st_lor, st_lshl, st_lshr, st_i2l, st_l2i, st_i2b, st_i2s, st_i2c, st_lcmp, st_dup, st_pop, st_dup2, st_pop2, st_getfield, st_getstatic, st_checkcast, st_instanceof, st_putfield, st_putstatic, st_dstore, st_iaload, st_baload, st_laload, st_aaload, st_iastore, st_bastore, st_lastore, st_arraylength, st_dcmpg, st_dcmpl, st_fcmpg, st_fcmpl, st_monitorenter, st_tableswitch, st_multianewarray, st_invokeinterface, st_ireturn, st_lreturn, st_return_, st_ldc, st_ldc_w, st_ldc2_w, st_freturn, st_invokevirtual, st_anewarray0, st_anewarray1, st_anewarray2, st_anewarray3, st_anewarray4, st_anewarray5, st_lookupswitch, popI_c, popL_c, popR_c, popV_c, getI_c, getL_c, getR_c, lg_z, lg_s, ls1_z, ls1_o, ls1_s, ls2_z, ls2_o, ls2_s, noL_i, noL_l, noL_r, isL_i, isL_l, isL_r, tk_z, tk_s, psh_n, psh_s, ent_e, entL_n, entL_c, cc_eq, cc_ne, cc_lt, cc_ge, cc_gt, cc_le, swt_n, swt_c, lsw_n, lsw_c, mPs, NSTR_e, akds, alens, cnts, arfs, inb_e, lcm_lt, lcm_gt, lcm_ge, lcm_le, lcm_eq, lcm_a, lcm_b, Int.reduceToNat, Nat.reduceDiv, Nat.reduceMod, Nat.reduceMul, Nat.reduceAdd, Nat.reduceSub, Nat.reduceLT, Nat.reduceLeDiff, Nat.reduceEqDiff, Int.reduceNeg, Int.reduceAdd, Nat.one_mul, Nat.zero_mul, Nat.add_zero, Nat.zero_add, if_true, if_false, eq_self, true_and, and_true, true_or, or_true, false_or, or_false, List.length_cons, List.length_nil, List.cons_append, List.nil_append, List.replicate_zero, List.replicate_succ, Nat.lt_irrefl, reduceCtorEq, Bool.false_eq_true, in32, in64, Int.reduceLE, Int.reduceLT, Int.reduceEq, Int.reduceNe, not_true_eq_false, not_false_eq_true, true_implies, false_implies, implies_true, false_and, and_false, and_self, b_X11_feedInt, r_X11_feedInt, h_X11_feedInt_3, g5, fb, m5, k6, es]
      (repeat' with_reducible first | apply And.intro | intro _)
      all_goals try omega
      refine ih (r + 1) _ (by omega) (by omega) (eqx_mu (eqx_mu g2 (by decide)) (by decide)) (by rw [mu_at, if_pos rfl]; omega) (fun j => ?_)
      rw [mu_k (by decide), mu_at, g6 j]
      by_cases cj : j = (T + r).toNat
      · rw [if_pos cj, if_pos ⟨by omega, by omega⟩, show (j : Int) - T = r by omega]
      · rw [if_neg cj]
        by_cases cj2 : T ≤ (j : Int) ∧ (j : Int) < T + r
        · rw [if_pos cj2, if_pos ⟨cj2.1, by omega⟩]
        · rw [if_neg cj2, if_neg (by omega)]
  refine e_X11_feedInt (Nat.le_of_ble_eq_true rfl) ?_
  simp only [wp_c, st_iload, st_lload, st_aload, st_istore, st_lstore, st_astore, st_iinc, st_sipush, st_jsr_w, st_goto, st_jsr, st_goto_w, st_if_icmp, st_ifCond, st_iadd, st_isub, st_imul, st_idiv, st_irem, st_iand, st_ior, st_ixor, st_ishl, st_ishr, st_iushr, st_ladd, st_lsub, st_lmul, st_ldiv, st_lrem, st_land, st_lor, st_lshl, st_lshr, st_i2l, st_l2i, st_i2b, st_i2s, st_i2c, st_lcmp, st_dup, st_pop, st_dup2, st_pop2, st_getfield, st_getstatic, st_checkcast, st_instanceof, st_putfield, st_putstatic, st_dstore, st_iaload, st_baload, st_laload, st_aaload, st_iastore, st_bastore, st_lastore, st_arraylength, st_dcmpg, st_dcmpl, st_fcmpg, st_fcmpl, st_monitorenter, st_tableswitch, st_multianewarray, st_invokeinterface, st_ireturn, st_lreturn, st_return_, st_ldc, st_ldc_w, st_ldc2_w, st_freturn, st_invokevirtual, st_anewarray0, st_anewarray1, st_anewarray2, st_anewarray3, st_anewarray4, st_anewarray5, st_lookupswitch, popI_c, popL_c, popR_c, popV_c, getI_c, getL_c, getR_c, lg_z, lg_s, ls1_z, ls1_o, ls1_s, ls2_z, ls2_o, ls2_s, noL_i, noL_l, noL_r, isL_i, isL_l, isL_r, tk_z, tk_s, psh_n, psh_s, ent_e, entL_n, entL_c, cc_eq, cc_ne, cc_lt, cc_ge, cc_gt, cc_le, swt_n, swt_c, lsw_n, lsw_c, mPs, NSTR_e, akds, alens, cnts, arfs, inb_e, lcm_lt, lcm_gt, lcm_ge, lcm_le, lcm_eq, lcm_a, lcm_b, Int.reduceToNat, Nat.reduceDiv, Nat.reduceMod, Nat.reduceMul, Nat.reduceAdd, Nat.reduceSub, Nat.reduceLT, Nat.reduceLeDiff, Nat.reduceEqDiff, Int.reduceNeg, Int.reduceAdd, Nat.one_mul, Nat.zero_mul, Nat.add_zero, Nat.zero_add, if_true, if_false, eq_self, true_and, and_true, true_or, or_true, false_or, or_false, List.length_cons, List.length_nil, List.cons_append, List.nil_append, List.replicate_zero, List.replicate_succ, Nat.lt_irrefl, reduceCtorEq, Bool.false_eq_true, in32, in64, Int.reduceLE, Int.reduceLT, Int.reduceEq, Int.reduceNe, not_true_eq_false, not_false_eq_true, true_implies, false_implies, implies_true, false_and, and_false, and_self, b_X11_feedInt, r_X11_feedInt]
  exact H 4 0 σ (by decide) (by decide) eqx.rf (by rw [← hT]; omega) (fun j => by rw [if_neg (by omega)])
theorem c_feed {v1 v2 v3 v4 v5 T : Int} (h1 : in32 v1) (h2 : in32 v2) (h3 : in32 v3) (h4 : in32 v4) (h5 : in32 v5) (hT : T = σ 11 0 13) (hb : 0 ≤ T ∧ T ≤ 900)
    (hn : 880 < T → K (some (.inl (-5))) σ)
    (h0 : T ≤ 880 → ∀ σ', eqx [11, 40] σ σ' → σ' 11 0 13 = T + 20 → (∀ j : Nat, σ' 40 0 j = if T ≤ (j : Int) ∧ (j : Int) < T + 20 then (fdB v1 v2 v3 v4 v5 (j - T)).bmod 256 else σ 40 0 j) → K (some (.inl (T + 20))) σ') : Ev (d + 2) 106 [bo, .inl v1, .inl v2, .inl v3, .inl v4, .inl v5] σ K := by
  have hT' := hT.symm
  refine e_X11_feed (Nat.le_of_ble_eq_true rfl) ?_
  simp only [wp_c, st_iload, st_lload, st_aload, st_istore, st_lstore, st_astore, st_iinc, st_sipush, st_jsr_w, st_goto, st_jsr, st_goto_w, st_if_icmp, st_ifCond, st_iadd, st_isub, st_imul, st_idiv, st_irem, st_iand, st_ior, st_ixor, st_ishl, st_ishr, st_iushr, st_ladd, st_lsub, st_lmul, st_ldiv, st_lrem, st_land, st_lor, st_lshl, st_lshr, st_i2l, st_l2i, st_i2b, st_i2s, st_i2c, st_lcmp, st_dup, st_pop, st_dup2, st_pop2, st_getfield, st_getstatic, st_checkcast, st_instanceof, st_putfield, st_putstatic, st_dstore, st_iaload, st_baload, st_laload, st_aaload, st_iastore, st_bastore, st_lastore, st_arraylength, st_dcmpg, st_dcmpl, st_fcmpg, st_fcmpl, st_monitorenter, st_tableswitch, st_multianewarray, st_invokeinterface, st_ireturn, st_lreturn, st_return_, st_ldc, st_ldc_w, st_ldc2_w, st_freturn, st_invokevirtual, st_anewarray0, st_anewarray1, st_anewarray2, st_anewarray3, st_anewarray4, st_anewarray5, st_lookupswitch, popI_c, popL_c, popR_c, popV_c, getI_c, getL_c, getR_c, lg_z, lg_s, ls1_z, ls1_o, ls1_s, ls2_z, ls2_o, ls2_s, noL_i, noL_l, noL_r, isL_i, isL_l, isL_r, tk_z, tk_s, psh_n, psh_s, ent_e, entL_n, entL_c, cc_eq, cc_ne, cc_lt, cc_ge, cc_gt, cc_le, swt_n, swt_c, lsw_n, lsw_c, mPs, NSTR_e, akds, alens, cnts, arfs, inb_e, lcm_lt, lcm_gt, lcm_ge, lcm_le, lcm_eq, lcm_a, lcm_b, Int.reduceToNat, Nat.reduceDiv, Nat.reduceMod, Nat.reduceMul, Nat.reduceAdd, Nat.reduceSub, Nat.reduceLT, Nat.reduceLeDiff, Nat.reduceEqDiff, Int.reduceNeg, Int.reduceAdd, Nat.one_mul, Nat.zero_mul, Nat.add_zero, Nat.zero_add, if_true, if_false, eq_self, true_and, and_true, true_or, or_true, false_or, or_false, List.length_cons, List.length_nil, List.cons_append, List.nil_append, List.replicate_zero, List.replicate_succ, Nat.lt_irrefl, reduceCtorEq, Bool.false_eq_true, in32, in64, Int.reduceLE, Int.reduceLT, Int.reduceEq, Int.reduceNe, not_true_eq_false, not_false_eq_true, true_implies, false_implies, implies_true, false_and, and_false, and_self, b_X11_feed, r_X11_feed, hT']
  (repeat' with_reducible first | apply And.intro | intro _)
  all_goals try omega
  · refine c_feedInt h1 hT ⟨by omega, by omega⟩ (fun σ1 x1 t1 g1 => ?_)
    simp only [wp_c, st_iload, st_lload, st_aload, st_istore, st_lstore, st_astore, st_iinc, st_sipush, st_jsr_w, st_goto, st_jsr, st_goto_w, st_if_icmp, st_ifCond, st_iadd, st_isub, st_imul, st_idiv, st_irem, st_iand, st_ior, st_ixor, st_ishl, st_ishr, st_iushr, st_ladd, st_lsub, st_lmul, st_ldiv, st_lrem, st_land, st_lor, st_lshl, st_lshr, st_i2l, st_l2i, st_i2b, st_i2s, st_i2c, st_lcmp, st_dup, st_pop, st_dup2, st_pop2, st_getfield, st_getstatic, st_checkcast, st_instanceof, st_putfield, st_putstatic, st_dstore, st_iaload, st_baload, st_laload, st_aaload, st_iastore, st_bastore, st_lastore, st_arraylength, st_dcmpg, st_dcmpl, st_fcmpg, st_fcmpl, st_monitorenter, st_tableswitch, st_multianewarray, st_invokeinterface, st_ireturn, st_lreturn, st_return_, st_ldc, st_ldc_w, st_ldc2_w, st_freturn, st_invokevirtual, st_anewarray0, st_anewarray1, st_anewarray2, st_anewarray3, st_anewarray4, st_anewarray5, st_lookupswitch, popI_c, popL_c, popR_c, popV_c, getI_c, getL_c, getR_c, lg_z, lg_s, ls1_z, ls1_o, ls1_s, ls2_z, ls2_o, ls2_s, noL_i, noL_l, noL_r, isL_i, isL_l, isL_r, tk_z, tk_s, psh_n, psh_s, ent_e, entL_n, entL_c, cc_eq, cc_ne, cc_lt, cc_ge, cc_gt, cc_le, swt_n, swt_c, lsw_n, lsw_c, mPs, NSTR_e, akds, alens, cnts, arfs, inb_e, lcm_lt, lcm_gt, lcm_ge, lcm_le, lcm_eq, lcm_a, lcm_b, Int.reduceToNat, Nat.reduceDiv, Nat.reduceMod, Nat.reduceMul, Nat.reduceAdd, Nat.reduceSub, Nat.reduceLT, Nat.reduceLeDiff, Nat.reduceEqDiff, Int.reduceNeg, Int.reduceAdd, Nat.one_mul, Nat.zero_mul, Nat.add_zero, Nat.zero_add, if_true, if_false, eq_self, true_and, and_true, true_or, or_true, false_or, or_false, List.length_cons, List.length_nil, List.cons_append, List.nil_append, List.replicate_zero, List.replicate_succ, Nat.lt_irrefl, reduceCtorEq, Bool.false_eq_true, in32, in64, Int.reduceLE, Int.reduceLT, Int.reduceEq, Int.reduceNe, not_true_eq_false, not_false_eq_true, true_implies, false_implies, implies_true, false_and, and_false, and_self, b_X11_feed, r_X11_feed]
    (repeat' with_reducible first | apply And.intro | intro _)
    all_goals try omega
    refine c_feedInt h2 t1.symm ⟨by omega, by omega⟩ (fun σ2 x2 t2 g2 => ?_)
    simp only [wp_c, st_iload, st_lload, st_aload, st_istore, st_lstore, st_astore, st_iinc, st_sipush, st_jsr_w, st_goto, st_jsr, st_goto_w, st_if_icmp, st_ifCond, st_iadd, st_isub, st_imul, st_idiv, st_irem, st_iand, st_ior, st_ixor, st_ishl, st_ishr, st_iushr, st_ladd, st_lsub, st_lmul, st_ldiv, st_lrem, st_land, st_lor, st_lshl, st_lshr, st_i2l, st_l2i, st_i2b, st_i2s, st_i2c, st_lcmp, st_dup, st_pop, st_dup2, st_pop2, st_getfield, st_getstatic, st_checkcast, st_instanceof, st_putfield, st_putstatic, st_dstore, st_iaload, st_baload, st_laload, st_aaload, st_iastore, st_bastore, st_lastore, st_arraylength, st_dcmpg, st_dcmpl, st_fcmpg, st_fcmpl, st_monitorenter, st_tableswitch, st_multianewarray, st_invokeinterface, st_ireturn, st_lreturn, st_return_, st_ldc, st_ldc_w, st_ldc2_w, st_freturn, st_invokevirtual, st_anewarray0, st_anewarray1, st_anewarray2, st_anewarray3, st_anewarray4, st_anewarray5, st_lookupswitch, popI_c, popL_c, popR_c, popV_c, getI_c, getL_c, getR_c, lg_z, lg_s, ls1_z, ls1_o, ls1_s, ls2_z, ls2_o, ls2_s, noL_i, noL_l, noL_r, isL_i, isL_l, isL_r, tk_z, tk_s, psh_n, psh_s, ent_e, entL_n, entL_c, cc_eq, cc_ne, cc_lt, cc_ge, cc_gt, cc_le, swt_n, swt_c, lsw_n, lsw_c, mPs, NSTR_e, akds, alens, cnts, arfs, inb_e, lcm_lt, lcm_gt, lcm_ge, lcm_le, lcm_eq, lcm_a, lcm_b, Int.reduceToNat, Nat.reduceDiv, Nat.reduceMod, Nat.reduceMul, Nat.reduceAdd, Nat.reduceSub, Nat.reduceLT, Nat.reduceLeDiff, Nat.reduceEqDiff, Int.reduceNeg, Int.reduceAdd, Nat.one_mul, Nat.zero_mul, Nat.add_zero, Nat.zero_add, if_true, if_false, eq_self, true_and, and_true, true_or, or_true, false_or, or_false, List.length_cons, List.length_nil, List.cons_append, List.nil_append, List.replicate_zero, List.replicate_succ, Nat.lt_irrefl, reduceCtorEq, Bool.false_eq_true, in32, in64, Int.reduceLE, Int.reduceLT, Int.reduceEq, Int.reduceNe, not_true_eq_false, not_false_eq_true, true_implies, false_implies, implies_true, false_and, and_false, and_self, b_X11_feed, r_X11_feed]
    (repeat' with_reducible first | apply And.intro | intro _)
    all_goals try omega
    refine c_feedInt h3 t2.symm ⟨by omega, by omega⟩ (fun σ3 x3 t3 g3 => ?_)
    simp only [wp_c, st_iload, st_lload, st_aload, st_istore, st_lstore, st_astore, st_iinc, st_sipush, st_jsr_w, st_goto, st_jsr, st_goto_w, st_if_icmp, st_ifCond, st_iadd, st_isub, st_imul, st_idiv, st_irem, st_iand, st_ior, st_ixor, st_ishl, st_ishr, st_iushr, st_ladd, st_lsub, st_lmul, st_ldiv, st_lrem, st_land, st_lor, st_lshl, st_lshr, st_i2l, st_l2i, st_i2b, st_i2s, st_i2c, st_lcmp, st_dup, st_pop, st_dup2, st_pop2, st_getfield, st_getstatic, st_checkcast, st_instanceof, st_putfield, st_putstatic, st_dstore, st_iaload, st_baload, st_laload, st_aaload, st_iastore, st_bastore, st_lastore, st_arraylength, st_dcmpg, st_dcmpl, st_fcmpg, st_fcmpl, st_monitorenter, st_tableswitch, st_multianewarray, st_invokeinterface, st_ireturn, st_lreturn, st_return_, st_ldc, st_ldc_w, st_ldc2_w, st_freturn, st_invokevirtual, st_anewarray0, st_anewarray1, st_anewarray2, st_anewarray3, st_anewarray4, st_anewarray5, st_lookupswitch, popI_c, popL_c, popR_c, popV_c, getI_c, getL_c, getR_c, lg_z, lg_s, ls1_z, ls1_o, ls1_s, ls2_z, ls2_o, ls2_s, noL_i, noL_l, noL_r, isL_i, isL_l, isL_r, tk_z, tk_s, psh_n, psh_s, ent_e, entL_n, entL_c, cc_eq, cc_ne, cc_lt, cc_ge, cc_gt, cc_le, swt_n, swt_c, lsw_n, lsw_c, mPs, NSTR_e, akds, alens, cnts, arfs, inb_e, lcm_lt, lcm_gt, lcm_ge, lcm_le, lcm_eq, lcm_a, lcm_b, Int.reduceToNat, Nat.reduceDiv, Nat.reduceMod, Nat.reduceMul, Nat.reduceAdd, Nat.reduceSub, Nat.reduceLT, Nat.reduceLeDiff, Nat.reduceEqDiff, Int.reduceNeg, Int.reduceAdd, Nat.one_mul, Nat.zero_mul, Nat.add_zero, Nat.zero_add, if_true, if_false, eq_self, true_and, and_true, true_or, or_true, false_or, or_false, List.length_cons, List.length_nil, List.cons_append, List.nil_append, List.replicate_zero, List.replicate_succ, Nat.lt_irrefl, reduceCtorEq, Bool.false_eq_true, in32, in64, Int.reduceLE, Int.reduceLT, Int.reduceEq, Int.reduceNe, not_true_eq_false, not_false_eq_true, true_implies, false_implies, implies_true, false_and, and_false, and_self, b_X11_feed, r_X11_feed]
    (repeat' with_reducible first | apply And.intro | intro _)
    all_goals try omega
    refine c_feedInt h4 t3.symm ⟨by omega, by omega⟩ (fun σ4 x4 t4 g4 => ?_)
    simp only [wp_c, st_iload, st_lload, st_aload, st_istore, st_lstore, st_astore, st_iinc, st_sipush, st_jsr_w, st_goto, st_jsr, st_goto_w, st_if_icmp, st_ifCond, st_iadd, st_isub, st_imul, st_idiv, st_irem, st_iand, st_ior, st_ixor, st_ishl, st_ishr, st_iushr, st_ladd, st_lsub, st_lmul, st_ldiv, st_lrem, st_land, st_lor, st_lshl, st_lshr, st_i2l, st_l2i, st_i2b, st_i2s, st_i2c, st_lcmp, st_dup, st_pop, st_dup2, st_pop2, st_getfield, st_getstatic, st_checkcast, st_instanceof, st_putfield, st_putstatic, st_dstore, st_iaload, st_baload, st_laload, st_aaload, st_iastore, st_bastore, st_lastore, st_arraylength, st_dcmpg, st_dcmpl, st_fcmpg, st_fcmpl, st_monitorenter, st_tableswitch, st_multianewarray, st_invokeinterface, st_ireturn, st_lreturn, st_return_, st_ldc, st_ldc_w, st_ldc2_w, st_freturn, st_invokevirtual, st_anewarray0, st_anewarray1, st_anewarray2, st_anewarray3, st_anewarray4, st_anewarray5, st_lookupswitch, popI_c, popL_c, popR_c, popV_c, getI_c, getL_c, getR_c, lg_z, lg_s, ls1_z, ls1_o, ls1_s, ls2_z, ls2_o, ls2_s, noL_i, noL_l, noL_r, isL_i, isL_l, isL_r, tk_z, tk_s, psh_n, psh_s, ent_e, entL_n, entL_c, cc_eq, cc_ne, cc_lt, cc_ge, cc_gt, cc_le, swt_n, swt_c, lsw_n, lsw_c, mPs, NSTR_e, akds, alens, cnts, arfs, inb_e, lcm_lt, lcm_gt, lcm_ge, lcm_le, lcm_eq, lcm_a, lcm_b, Int.reduceToNat, Nat.reduceDiv, Nat.reduceMod, Nat.reduceMul, Nat.reduceAdd, Nat.reduceSub, Nat.reduceLT, Nat.reduceLeDiff, Nat.reduceEqDiff, Int.reduceNeg, Int.reduceAdd, Nat.one_mul, Nat.zero_mul, Nat.add_zero, Nat.zero_add, if_true, if_false, eq_self, true_and, and_true, true_or, or_true, false_or, or_false, List.length_cons, List.length_nil, List.cons_append, List.nil_append, List.replicate_zero, List.replicate_succ, Nat.lt_irrefl, reduceCtorEq, Bool.false_eq_true, in32, in64, Int.reduceLE, Int.reduceLT, Int.reduceEq, Int.reduceNe, not_true_eq_false, not_false_eq_true, true_implies, false_implies, implies_true, false_and, and_false, and_self, b_X11_feed, r_X11_feed]
    (repeat' with_reducible first | apply And.intro | intro _)
    all_goals try omega
    refine c_feedInt h5 t4.symm ⟨by omega, by omega⟩ (fun σ5 x5 t5 g5 => ?_)
    have t5' : σ5 11 0 13 = T + 20 := by rw [t5]; omega
    simp only [wp_c, st_iload, st_lload, st_aload, st_istore, st_lstore, st_astore, st_iinc, st_sipush, st_jsr_w, st_goto, st_jsr, st_goto_w, st_if_icmp, st_ifCond, st_iadd, st_isub, st_imul, st_idiv, st_irem, st_iand, st_ior, st_ixor, st_ishl, st_ishr, st_iushr, st_ladd, st_lsub, st_lmul, st_ldiv, st_lrem, st_land, st_lor, st_lshl, st_lshr, st_i2l, st_l2i, st_i2b, st_i2s, st_i2c, st_lcmp, st_dup, st_pop, st_dup2, st_pop2, st_getfield, st_getstatic, st_checkcast, st_instanceof, st_putfield, st_putstatic, st_dstore, st_iaload, st_baload, st_laload, st_aaload, st_iastore, st_bastore, st_lastore, st_arraylength, st_dcmpg, st_dcmpl, st_fcmpg, st_fcmpl, st_monitorenter, st_tableswitch, st_multianewarray, st_invokeinterface, st_ireturn, st_lreturn, st_return_, st_ldc, st_ldc_w, st_ldc2_w, st_freturn, st_invokevirtual, st_anewarray0, st_anewarray1, st_anewarray2, st_anewarray3, st_anewarray4, st_anewarray5, st_lookupswitch, popI_c, popL_c, popR_c, popV_c, getI_c, getL_c, getR_c, lg_z, lg_s, ls1_z, ls1_o, ls1_s, ls2_z, ls2_o, ls2_s, noL_i, noL_l, noL_r, isL_i, isL_l, isL_r, tk_z, tk_s, psh_n, psh_s, ent_e, entL_n, entL_c, cc_eq, cc_ne, cc_lt, cc_ge, cc_gt, cc_le, swt_n, swt_c, lsw_n, lsw_c, mPs, NSTR_e, akds, alens, cnts, arfs, inb_e, lcm_lt, lcm_gt, lcm_ge, lcm_le, lcm_eq, lcm_a, lcm_b, Int.reduceToNat, Nat.reduceDiv, Nat.reduceMod, Nat.reduceMul, Nat.reduceAdd, Nat.reduceSub, Nat.reduceLT, Nat.reduceLeDiff, Nat.reduceEqDiff, Int.reduceNeg, Int.reduceAdd, Nat.one_mul, Nat.zero_mul, Nat.add_zero, Nat.zero_add, if_true, if_false, eq_self, true_and, and_true, true_or, or_true, false_or, or_false, List.length_cons, List.length_nil, List.cons_append, List.nil_append, List.replicate_zero, List.replicate_succ, Nat.lt_irrefl, reduceCtorEq, Bool.false_eq_true, in32, in64, Int.reduceLE, Int.reduceLT, Int.reduceEq, Int.reduceNe, not_true_eq_false, not_false_eq_true, true_implies, false_implies, implies_true, false_and, and_false, and_self, b_X11_feed, r_X11_feed, t5']
    (repeat' with_reducible first | apply And.intro | intro _)
    all_goals try omega
    all_goals refine h0 (by omega) σ5 ((((x1.tr x2).tr x3).tr x4).tr x5) t5' (fun j => ?_)
    all_goals rw [g5 j, g4 j, g3 j, g2 j, g1 j]
    all_goals unfold fdB
    all_goals by_cases c5 : T + 16 ≤ (j : Int) ∧ (j : Int) < T + 20
    · rw [if_pos (by omega), if_pos (by omega), if_neg (by omega), if_neg (by omega), if_neg (by omega), if_neg (by omega), show ((j : Int) - T) % 4 = j - (T + 4 + 4 + 4 + 4) by omega]
    · rw [if_neg (show ¬ (T + 4 + 4 + 4 + 4 ≤ (j : Int) ∧ (j : Int) < T + 4 + 4 + 4 + 4 + 4) by omega)]
      by_cases c4 : T + 12 ≤ (j : Int) ∧ (j : Int) < T + 16
      · rw [if_pos (by omega), if_pos (by omega), if_neg (by omega), if_neg (by omega), if_neg (by omega), if_pos (by omega), show ((j : Int) - T) % 4 = j - (T + 4 + 4 + 4) by omega]
      · rw [if_neg (show ¬ (T + 4 + 4 + 4 ≤ (j : Int) ∧ (j : Int) < T + 4 + 4 + 4 + 4) by omega)]
        by_cases c3 : T + 8 ≤ (j : Int) ∧ (j : Int) < T + 12
        · rw [if_pos (by omega), if_pos (by omega), if_neg (by omega), if_neg (by omega), if_pos (by omega), show ((j : Int) - T) % 4 = j - (T + 4 + 4) by omega]
        · rw [if_neg (show ¬ (T + 4 + 4 ≤ (j : Int) ∧ (j : Int) < T + 4 + 4 + 4) by omega)]
          by_cases c2 : T + 4 ≤ (j : Int) ∧ (j : Int) < T + 8
          · rw [if_pos (by omega), if_pos (by omega), if_neg (by omega), if_pos (by omega), show ((j : Int) - T) % 4 = j - (T + 4) by omega]
          · rw [if_neg (show ¬ (T + 4 ≤ (j : Int) ∧ (j : Int) < T + 4 + 4) by omega)]
            by_cases c1 : T ≤ (j : Int) ∧ (j : Int) < T + 4
            · rw [if_pos (by omega), if_pos (by omega), if_pos (by omega), show ((j : Int) - T) % 4 = j - T by omega]
            · rw [if_neg (by omega), if_neg (by omega)]
  · exact hn (by omega)
end FEED
