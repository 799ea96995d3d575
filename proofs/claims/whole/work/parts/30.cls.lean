/-! 30: the class: a world's view, its laws, its reckoner -/
def pln (σ : Mem) (w : Nat) : Nat := (σ 10 w 3).toNat
/-- a world of the class as the reference has it; b: what stands elsewhere -/
def V (σ : Mem) (w : Nat) (b : BV) : BV := fun j =>
  if j = 0 then σ 3 (pln σ w) 9 else if j = 1 then σ 3 (pln σ w) 5 else if j = 2 then σ 3 (pln σ w) 6 else if j = 3 then σ 3 (pln σ w) 7 else if j < 10 then b j else if j < 18 then σ 21 (pln σ w) (j - 10)
  else if j = 18 then σ 7 w 4 else if j = 19 then σ 7 w 5 else if j = 20 then σ 7 w 6 else if j = 21 then σ 7 w 3 else if j < 30 then σ 35 w (j - 22) else if j < 36 then σ 33 w (j - 30) else if j < 72 then σ 34 w (j - 36) else b j
theorem V_bears {σ : Mem} {w : Nat} {b : BV} {k : Int} (h : 0 ≤ k ∧ k < 8) : V σ w b (10 + k).toNat = σ 21 (pln σ w) k.toNat := by
  unfold V
  rw [if_neg (by omega), if_neg (by omega), if_neg (by omega), if_neg (by omega), if_neg (by omega), if_pos (by omega), show (10 + k).toNat - 10 = k.toNat by omega]
theorem V_mended {σ : Mem} {w : Nat} {b : BV} {k : Int} (h : 0 ≤ k ∧ k < 8) : V σ w b (22 + k).toNat = σ 35 w k.toNat := by
  unfold V
  rw [if_neg (by omega), if_neg (by omega), if_neg (by omega), if_neg (by omega), if_neg (by omega), if_neg (by omega), if_neg (by omega), if_neg (by omega), if_neg (by omega), if_neg (by omega), if_pos (by omega), show (22 + k).toNat - 22 = k.toNat by omega]
theorem V_place {σ : Mem} {w : Nat} {b : BV} {p : Int} (h : 0 ≤ p ∧ p < 6) : plc (V σ w b) p = σ 33 w p.toNat := by
  unfold plc V
  rw [if_neg (by omega), if_neg (by omega), if_neg (by omega), if_neg (by omega), if_neg (by omega), if_neg (by omega), if_neg (by omega), if_neg (by omega), if_neg (by omega), if_neg (by omega), if_neg (by omega), if_pos (by omega), show (30 + p).toNat - 30 = p.toNat by omega]
theorem V_debt {σ : Mem} {w : Nat} {b : BV} {p q : Int} (h1 : 0 ≤ p ∧ p < 6) (h2 : 0 ≤ q ∧ q < 6) : dz (V σ w b) p q = σ 34 w (p * 6 + q).toNat := by
  unfold dz V
  rw [if_neg (by omega), if_neg (by omega), if_neg (by omega), if_neg (by omega), if_neg (by omega), if_neg (by omega), if_neg (by omega), if_neg (by omega), if_neg (by omega), if_neg (by omega), if_neg (by omega), if_neg (by omega), if_pos (by omega), show (36 + 6 * p + q).toNat - 36 = (p * 6 + q).toNat by omega]
theorem V_x {σ σ' : Mem} {L : List Nat} (h : eqx L σ σ') (hL : 3 ∉ L ∧ 7 ∉ L ∧ 10 ∉ L ∧ 21 ∉ L ∧ 33 ∉ L ∧ 34 ∉ L ∧ 35 ∉ L) (w : Nat) (b : BV) : V σ' w b = V σ w b := by
  obtain ⟨l1, l2, l3, l4, l5, l6, l7⟩ := hL
  funext j
  unfold V pln
  rw [h 3 l1, h 7 l2, h 10 l3, h 21 l4, h 33 l5, h 34 l6, h 35 l7]
/-- a code of the reference as the class has it -/
def itr (c : Int) : Int := if c < 3000 then c else if c = 3006 then 2000 else if c < 3006 then c - 999 else c - 1000
def lawC (σ : Mem) (Kd n : Nat) (cs : List Int) : Prop := σ 61 Kd n = cs.length ∧ cs.length ≤ 900 ∧ ∀ (i : Nat) (c : Int), cs[i]? = some c → σ Kd n i = itr c
theorem lawC_x {σ σ' : Mem} {L : List Nat} (h : eqx L σ σ') {Kd n : Nat} {cs : List Int} (h1 : Kd ∉ L) (h2 : 61 ∉ L) (hc : lawC σ Kd n cs) : lawC σ' Kd n cs := by
  unfold lawC
  rw [h Kd h1, h 61 h2]
  exact hc
/-- what a world of the class is -/
def WI (σ : Mem) (w : Nat) (b : BV) (lw ll : List Int) : Prop := w < 4 ∧ pln σ w < (σ 60 0 0).toNat ∧ OkA (V σ w b) ∧ lawC σ 24 (pln σ w) lw ∧ lawC σ 25 (pln σ w) ll ∧ LwOk 0 lw ∧ LwOk 1 ll
theorem WI_x {σ σ' : Mem} {L : List Nat} (h : eqx L σ σ') (hL : 3 ∉ L ∧ 7 ∉ L ∧ 10 ∉ L ∧ 21 ∉ L ∧ 33 ∉ L ∧ 34 ∉ L ∧ 35 ∉ L) (hM : 24 ∉ L ∧ 25 ∉ L ∧ 60 ∉ L ∧ 61 ∉ L) {w : Nat} {b : BV} {lw ll : List Int} (hi : WI σ w b lw ll) : WI σ' w b lw ll := by
  obtain ⟨h1, h2, h3, h4, h5, h6, h7⟩ := hi
  have e : pln σ' w = pln σ w := by unfold pln; rw [h 10 hL.2.2.1]
  refine ⟨h1, ?_, ?_, ?_, ?_, h6, h7⟩
  · rw [e, h 60 hM.2.2.1]; exact h2
  · rw [V_x h hL]; exact h3
  · rw [e]; exact lawC_x h hM.1 hM.2.2.2 h4
  · rw [e]; exact lawC_x h hM.2.1 hM.2.2.2 h5
/-- what joined answers, by the reference's code -/
def jnd (c a b : Int) : Int := if c = 3000 then a + b else if c = 3001 then a - b else if c = 3002 then a * b else if c = 3003 then (if a = b then 1 else 0) else if c = 3004 then (if a < b then 1 else 0) else if c = 3005 then (if b < a then 1 else 0) else if c = 3007 then jand a b else jor a b
section CLS
variable {d : Nat} {σ : Mem} {K : Option AV → Mem → Prop}
theorem c_joined {c a b : Int} (hc : 3000 ≤ c ∧ c ≤ 3008 ∧ ¬ c = 3006) (ha : -1000000 ≤ a ∧ a ≤ 1000000) (hb : -1000000 ≤ b ∧ b ≤ 1000000) (hK : K (some (.inr (.inl (jnd c a b)))) σ) : Ev (d + 1) 52 [.inl (itr c), .inr (.inl a), .inr (.inl b)] σ K := by
  have hc' : c = 3000 ∨ c = 3001 ∨ c = 3002 ∨ c = 3003 ∨ c = 3004 ∨ c = 3005 ∨ c = 3007 ∨ c = 3008 := by omega
  clear hc
  refine e_X5_joined (Nat.le_of_ble_eq_true rfl) ?_
  rcases hc' with rfl | rfl | rfl | rfl | rfl | rfl | rfl | rfl
  all_goals simp only [jnd, Int.reduceEq, if_true, if_false] at hK
  all_goals simp only [wp_c, st_iload, st_lload, st_aload, st_istore, st_lstore, st_astore, st_iinc, st_sipush, st_jsr_w, st_goto, st_jsr, st_goto_w, st_if_icmp, st_ifCond, st_iadd, st_isub, st_imul, st_idiv, st_irem, st_iand, st_ior, st_ixor, st_ishl, st_ishr, st_iushr, st_ladd, st_lsub, st_lmul, st_ldiv, st_lrem, st_land, st_lor, st_lshl, st_lshr, st_i2l, st_l2i, st_i2b, st_i2s, st_i2c, st_lcmp, st_dup, st_pop, st_dup2, st_pop2, st_getfield, st_getstatic, st_checkcast, st_instanceof, st_putfield, st_putstatic, st_dstore, st_iaload, st_baload, st_laload, st_aaload, st_iastore, st_bastore, st_lastore, st_arraylength, st_dcmpg, st_dcmpl, st_fcmpg, st_fcmpl, st_monitorenter, st_tableswitch, st_multianewarray, st_invokeinterface, st_ireturn, st_lreturn, st_return_, st_ldc, st_ldc_w, st_ldc2_w, st_freturn, st_invokevirtual, st_anewarray0, st_anewarray1, st_anewarray2, st_anewarray3, st_anewarray4, st_anewarray5, st_lookupswitch, popI_c, popL_c, popR_c, popV_c, getI_c, getL_c, getR_c, lg_z, lg_s, ls1_z, ls1_o, ls1_s, ls2_z, ls2_o, ls2_s, noL_i, noL_l, noL_r, isL_i, isL_l, isL_r, tk_z, tk_s, psh_n, psh_s, ent_e, entL_n, entL_c, cc_eq, cc_ne, cc_lt, cc_ge, cc_gt, cc_le, swt_n, swt_c, lsw_n, lsw_c, mPs, NSTR_e, akds, alens, cnts, arfs, inb_e, lcm_lt, lcm_gt, lcm_ge, lcm_le, lcm_eq, lcm_a, lcm_b, Int.reduceToNat, Nat.reduceDiv, Nat.reduceMod, Nat.reduceMul, Nat.reduceAdd, Nat.reduceSub, Nat.reduceLT, Nat.reduceLeDiff, Nat.reduceEqDiff, Int.reduceNeg, Int.reduceAdd, Nat.one_mul, Nat.zero_mul, Nat.add_zero, Nat.zero_add, if_true, if_false, eq_self, true_and, and_true, true_or, or_true, false_or, or_false, List.length_cons, List.length_nil, List.cons_append, List.nil_append, List.replicate_zero, List.replicate_succ, Nat.lt_irrefl, reduceCtorEq, Bool.false_eq_true, in32, in64, Int.reduceLE, Int.reduceLT, Int.reduceEq, Int.reduceNe, not_true_eq_false, not_false_eq_true, true_implies, false_implies, implies_true, false_and, and_false, and_self, b_X5_joined, r_X5_joined, itr, Int.reduceSub]
  all_goals (repeat' with_reducible first | apply And.intro | intro _)
  all_goals try omega
  all_goals first | exact hK | (rename_i h; first | (rw [if_pos h] at hK; exact hK) | (rw [if_neg h] at hK; exact hK) | (rw [if_pos (by omega)] at hK; exact hK) | (rw [if_neg (by omega)] at hK; exact hK))
theorem jnd_btw {c a b : Int} {t1 : Bool} (hc : 3000 ≤ c ∧ c ≤ 3008 ∧ ¬ c = 3006) (ht : (t1 = true ↔ (c = 3007 ∨ c = 3008))) (ha : if t1 = true then a = 0 ∨ a = 1 else -1000000 ≤ a ∧ a ≤ 1000000) (hb : if t1 = true then b = 0 ∨ b = 1 else -1000000 ≤ b ∧ b ≤ 1000000) : imax (-1000000) (imin 1000000 (jnd c a b)) = btw c a b ∧ in64 (jnd c a b) := by
  have hc' : c = 3000 ∨ c = 3001 ∨ c = 3002 ∨ c = 3003 ∨ c = 3004 ∨ c = 3005 ∨ c = 3007 ∨ c = 3008 := by omega
  clear hc
  have cl : ∀ v : Int, imax (-1000000) (imin 1000000 v) = clG v := fun v => by
    unfold imax imin clG
    (repeat' split) <;> omega
  rcases hc' with rfl | rfl | rfl | rfl | rfl | rfl | rfl | rfl
  all_goals simp only [Int.reduceEq, or_false, or_true, iff_true, iff_false, Bool.not_eq_true] at ht
  all_goals subst ht
  all_goals simp only [Bool.false_eq_true, if_false, if_true] at ha hb
  · simp only [jnd, btw, Int.reduceEq, if_true, if_false, cl]
    exact ⟨trivial, by unfold in64; omega⟩
  · simp only [jnd, btw, Int.reduceEq, if_true, if_false, cl]
    exact ⟨trivial, by unfold in64; omega⟩
  · simp only [jnd, btw, Int.reduceEq, if_true, if_false, cl]
    have h1 : a.natAbs * b.natAbs ≤ 1000000 * 1000000 := Nat.mul_le_mul (by omega) (by omega)
    rw [← Int.natAbs_mul] at h1
    exact ⟨trivial, by unfold in64; omega⟩
  · simp only [jnd, btw, Int.reduceEq, if_true, if_false]
    unfold in64
    split <;> decide +kernel
  · simp only [jnd, btw, Int.reduceEq, if_true, if_false]
    unfold in64
    split <;> decide +kernel
  · simp only [jnd, btw, Int.reduceEq, if_true, if_false, gt_iff_lt]
    unfold in64
    split <;> decide +kernel
  · unfold in64
    rcases ha with rfl | rfl <;> rcases hb with rfl | rfl <;> decide +kernel
  · unfold in64
    rcases ha with rfl | rfl <;> rcases hb with rfl | rfl <;> decide +kernel
theorem c_valueOf {w Kd n : Nat} {cs : List Int} {ty : Bool} {ws : Nat → Int} (hw : w < 4) (hKd : Kd = 24 ∨ Kd = 25) (hn : n < (σ 60 0 0).toNat) (hc : lawC σ Kd n cs) (ht : trun cs [] = some [ty]) (hww : ∀ i : Nat, i < 9 → (1000 + (i : Int)) ∈ cs → σ 28 w i = ws i) (hb : ∀ c ∈ cs, wbd ws c)
    (hK : ∀ σ', eqx [27] σ σ' → K (some (.inl (lval ws cs))) σ') : Ev (d + 2) 51 [.inr (.inr (some (5, w))), .inr (.inr (some (Kd, n)))] σ K := by
  have k1 : akd Kd 0 = true := by rcases hKd with rfl | rfl <;> decide
  have k2 : ∀ σ : Mem, cnt σ Kd = (σ 60 0 0).toNat := by rcases hKd with rfl | rfl <;> exact fun _ => rfl
  have k3 : ∀ (σ : Mem) (i : Nat), ((alen σ Kd i : Nat) : Int) = ((σ 61 Kd i).toNat : Nat) := by rcases hKd with rfl | rfl <;> exact fun _ _ => rfl
  have k4 : isK Kd = true ∧ ¬ Kd < 13 ∧ aet Kd < 7 := by rcases hKd with rfl | rfl <;> decide
  have k5 : ¬ Kd = 27 ∧ ¬ Kd = 28 := by omega
  have k6 : isK 27 = true ∧ ¬ 27 < 13 ∧ aet 27 < 7 ∧ isK 28 = true ∧ ¬ 28 < 13 ∧ aet 28 < 7 := by decide
  obtain ⟨hc1, hc2, hc3⟩ := hc
  have H : ∀ (cs' : List Int) (st : List Int) (tys : List Bool) (k : Nat) (x1 x2 x3 x4 : AV) (m kz : Int) (σc : Mem), m = st.length → kz = k → isL x1 = false → isL x2 = false → eqx [27] σ σc → rpr (σc 27 w) st → tyd st tys → tys.length ≤ 60 → trun cs' tys = some [ty] → k + cs'.length = cs.length → (∀ (i : Nat) (c : Int), cs'[i]? = some c → cs[k + i]? = some c) → (∀ c ∈ cs', c ∈ cs) → lrun ws cs' st = lrun ws cs [] →
      Rn (d + 2) 51 4 [.inr (.inr (some (5, w))), .inr (.inr (some (Kd, n))), .inl m, .inl kz, x1, x2, x3, x4] [] σc K := by
    intro cs'
    induction cs' with
    | nil =>
      intro st tys k x1 x2 x3 x4 m kz σc hn2 hkz hx1 hx2 he hr hty hlen htr hk hg hin hv
      have e60 := he 60 (by decide)
      have e61 := he 61 (by decide)
      simp only [List.length_nil] at hk
      have htr : tys = [ty] := Option.some.inj htr
      subst htr
      obtain ⟨v, s, rfl, h1, h2⟩ := tyd_1 hty
      cases s with
      | cons a b => exact h2.elim
      | nil =>
      have hv0 : σc 27 w 0 = v := hr.1
      have hlv : lval ws cs = v := by
        unfold lval
        rw [← hv]
        rfl
      refine l_X5_valueOf_4 ?_
      simp only [wp_c, st_iload, st_lload, st_aload, st_istore, st_lstore, st_astore, st_iinc, st_sipush, st_jsr_w, st_goto, st_jsr, st_goto_w, st_if_icmp, st_ifCond, st_iadd, st_isub, st_imul, st_idiv, st_irem, st_iand, st_ior, st_ixor, st_ishl, st_ishr, st_iushr, st_ladd, st_lsub, st_lmul, st_ldiv, st_lrem, st_land, st_lor, st_lshl, st_lshr, st_i2l, st_l2i, st_i2b, st_i2s, st_i2c, st_lcmp, st_dup, st_pop, st_dup2, st_pop2, st_getfield, st_getstatic, st_checkcast, st_instanceof, st_putfield, st_putstatic, st_dstore, st_iaload, st_baload, st_laload, st_aaload, st_iastore, st_bastore, st_lastore, st_arraylength, st_dcmpg, st_dcmpl, st_fcmpg, st_fcmpl, st_monitorenter, st_tableswitch, st_multianewarray, st_invokeinterface, st_ireturn, st_lreturn, st_return_, st_ldc, st_ldc_w, st_ldc2_w, st_freturn, st_invokevirtual, st_anewarray0, st_anewarray1, st_anewarray2, st_anewarray3, st_anewarray4, st_anewarray5, st_lookupswitch, popI_c, popL_c, popR_c, popV_c, getI_c, getL_c, getR_c, lg_z, lg_s, ls1_z, ls1_o, ls1_s, ls2_z, ls2_o, ls2_s, noL_i, noL_l, noL_r, isL_i, isL_l, isL_r, tk_z, tk_s, psh_n, psh_s, ent_e, entL_n, entL_c, cc_eq, cc_ne, cc_lt, cc_ge, cc_gt, cc_le, swt_n, swt_c, lsw_n, lsw_c, mPs, NSTR_e, akds, alens, cnts, arfs, inb_e, lcm_lt, lcm_gt, lcm_ge, lcm_le, lcm_eq, lcm_a, lcm_b, Int.reduceToNat, Nat.reduceDiv, Nat.reduceMod, Nat.reduceMul, Nat.reduceAdd, Nat.reduceSub, Nat.reduceLT, Nat.reduceLeDiff, Nat.reduceEqDiff, Int.reduceNeg, Int.reduceAdd, Nat.one_mul, Nat.zero_mul, Nat.add_zero, Nat.zero_add, if_true, if_false, eq_self, true_and, and_true, true_or, or_true, false_or, or_false, List.length_cons, List.length_nil, List.cons_append, List.nil_append, List.replicate_zero, List.replicate_succ, Nat.lt_irrefl, reduceCtorEq, Bool.false_eq_true, in32, in64, Int.reduceLE, Int.reduceLT, Int.reduceEq, Int.reduceNe, not_true_eq_false, not_false_eq_true, true_implies, false_implies, implies_true, false_and, and_false, and_self, b_X5_valueOf, r_X5_valueOf, h_X5_valueOf_4, k2, k3, k4, k6, e60, e61, hc1, Int.toNat_natCast]
      (repeat' with_reducible first | apply And.intro | intro _)
      all_goals try omega
      all_goals (try rw [hv0, ← hlv]; exact hK _ he)
    | cons c cs' ih =>
      intro st tys k x1 x2 x3 x4 m kz σc hn2 hkz hx1 hx2 he hr hty hlen htr hk hg hin hv
      have e60 := he 60 (by decide)
      have e61 := he 61 (by decide)
      have e28 := he 28 (by decide)
      have eKd : σc Kd = σ Kd := he Kd (by simp; exact k5.1)
      simp only [List.length_cons] at hk
      have hcc : σ Kd n kz.toNat = itr c := by
        rw [hkz, Int.toNat_natCast]
        exact hc3 k c (by have := hg 0 c rfl; simpa using this)
      simp only [trun] at htr
      cases hts : tstep c tys with
      | none => rw [hts] at htr; cases htr
      | some tys' =>
      rw [hts] at htr
      have hty' := tyd_step (hb c (hin c List.mem_cons_self)) hty hts
      have hin' : ∀ c ∈ cs', c ∈ cs := fun c' h => hin c' (List.mem_cons_of_mem _ h)
      have hlst := tyd_len hty
      have hg' : ∀ (i : Nat) (c' : Int), cs'[i]? = some c' → cs[k + 1 + i]? = some c' := fun i c' h => by
        have := hg (i + 1) c' (by simpa using h)
        rw [show k + 1 + i = k + (i + 1) by omega]
        exact this
      have hv' : lrun ws cs' (lstep ws c st) = lrun ws cs [] := hv
      rcases tstep_cases hts with ⟨h1, h2, h3, rfl⟩ | ⟨rfl, r, rfl, rfl⟩ | h4
      · have ei : itr c = c := by
          unfold itr
          rw [if_pos (by omega)]
        rw [ei] at hcc
        refine l_X5_valueOf_4 ?_
        simp only [wp_c, st_iload, st_lload, st_aload, st_istore, st_lstore, st_astore, st_iinc, st_sipush, st_jsr_w, st_goto, st_jsr, st_goto_w, st_if_icmp, st_ifCond, st_iadd, st_isub, st_imul, st_idiv, st_irem, st_iand, st_ior, st_ixor, st_ishl, st_ishr, st_iushr, st_ladd, st_lsub, st_lmul, st_ldiv, st_lrem, st_land, st_lor, st_lshl, st_lshr, st_i2l, st_l2i, st_i2b, st_i2s, st_i2c, st_lcmp, st_dup, st_pop, st_dup2, st_pop2, st_getfield, st_getstatic, st_checkcast, st_instanceof, st_putfield, st_putstatic, st_dstore, st_iaload, st_baload, st_laload, st_aaload, st_iastore, st_bastore, st_lastore, st_arraylength, st_dcmpg, st_dcmpl, st_fcmpg, st_fcmpl, st_monitorenter, st_tableswitch, st_multianewarray, st_invokeinterface, st_ireturn, st_lreturn, st_return_, st_ldc, st_ldc_w, st_ldc2_w, st_freturn, st_invokevirtual, st_anewarray0, st_anewarray1, st_anewarray2, st_anewarray3, st_anewarray4, st_anewarray5, st_lookupswitch, popI_c, popL_c, popR_c, popV_c, getI_c, getL_c, getR_c, lg_z, lg_s, ls1_z, ls1_o, ls1_s, ls2_z, ls2_o, ls2_s, noL_i, noL_l, noL_r, isL_i, isL_l, isL_r, tk_z, tk_s, psh_n, psh_s, ent_e, entL_n, entL_c, cc_eq, cc_ne, cc_lt, cc_ge, cc_gt, cc_le, swt_n, swt_c, lsw_n, lsw_c, mPs, NSTR_e, akds, alens, cnts, arfs, inb_e, lcm_lt, lcm_gt, lcm_ge, lcm_le, lcm_eq, lcm_a, lcm_b, Int.reduceToNat, Nat.reduceDiv, Nat.reduceMod, Nat.reduceMul, Nat.reduceAdd, Nat.reduceSub, Nat.reduceLT, Nat.reduceLeDiff, Nat.reduceEqDiff, Int.reduceNeg, Int.reduceAdd, Nat.one_mul, Nat.zero_mul, Nat.add_zero, Nat.zero_add, if_true, if_false, eq_self, true_and, and_true, true_or, or_true, false_or, or_false, List.length_cons, List.length_nil, List.cons_append, List.nil_append, List.replicate_zero, List.replicate_succ, Nat.lt_irrefl, reduceCtorEq, Bool.false_eq_true, in32, in64, Int.reduceLE, Int.reduceLT, Int.reduceEq, Int.reduceNe, not_true_eq_false, not_false_eq_true, true_implies, false_implies, implies_true, false_and, and_false, and_self, b_X5_valueOf, r_X5_valueOf, h_X5_valueOf_4, k1, k2, k3, k4, k6, e60, e61, eKd, e28, hc1, hcc, Int.toNat_natCast]
        (repeat' with_reducible first | apply And.intro | intro _)
        all_goals try omega
        · have e : lstep ws c st = c :: st := by
            unfold lstep
            rw [if_pos (by omega)]
          rw [e] at hv' hty'
          exact ih (c :: st) _ (k + 1) _ _ _ _ _ _ _ (by simp; omega) (by omega) rfl rfl (eqx_mu he (by decide)) (rpr_mu (by omega) hr) hty' (by simp; omega) htr (by omega) hg' hin' hv'
        · have e : lstep ws c st = ws (c - 1000).toNat :: st := by
            unfold lstep
            rw [if_neg (by omega), if_pos (by omega)]
          rw [e] at hv' hty'
          rw [hww _ (by omega) (by have := hin c List.mem_cons_self; rw [show 1000 + (((c - 1000).toNat : Nat) : Int) = c by omega]; exact this)]
          exact ih (ws (c - 1000).toNat :: st) _ (k + 1) _ _ _ _ _ _ _ (by simp; omega) (by omega) rfl rfl (eqx_mu he (by decide)) (rpr_mu (by omega) hr) hty' (by simp; omega) htr (by omega) hg' hin' hv'
      · have ei : itr 3006 = 2000 := by decide
        rw [ei] at hcc
        obtain ⟨v, s, rfl, g1, g2⟩ := tyd_1 hty
        simp only [List.length_cons] at hn2 hlst hlen
        have hv0 : σc 27 w (m - 1).toNat = v := by
          rw [show (m - 1).toNat = s.length by omega]
          exact hr.1
        refine l_X5_valueOf_4 ?_
        simp only [wp_c, st_iload, st_lload, st_aload, st_istore, st_lstore, st_astore, st_iinc, st_sipush, st_jsr_w, st_goto, st_jsr, st_goto_w, st_if_icmp, st_ifCond, st_iadd, st_isub, st_imul, st_idiv, st_irem, st_iand, st_ior, st_ixor, st_ishl, st_ishr, st_iushr, st_ladd, st_lsub, st_lmul, st_ldiv, st_lrem, st_land, st_lor, st_lshl, st_lshr, st_i2l, st_l2i, st_i2b, st_i2s, st_i2c, st_lcmp, st_dup, st_pop, st_dup2, st_pop2, st_getfield, st_getstatic, st_checkcast, st_instanceof, st_putfield, st_putstatic, st_dstore, st_iaload, st_baload, st_laload, st_aaload, st_iastore, st_bastore, st_lastore, st_arraylength, st_dcmpg, st_dcmpl, st_fcmpg, st_fcmpl, st_monitorenter, st_tableswitch, st_multianewarray, st_invokeinterface, st_ireturn, st_lreturn, st_return_, st_ldc, st_ldc_w, st_ldc2_w, st_freturn, st_invokevirtual, st_anewarray0, st_anewarray1, st_anewarray2, st_anewarray3, st_anewarray4, st_anewarray5, st_lookupswitch, popI_c, popL_c, popR_c, popV_c, getI_c, getL_c, getR_c, lg_z, lg_s, ls1_z, ls1_o, ls1_s, ls2_z, ls2_o, ls2_s, noL_i, noL_l, noL_r, isL_i, isL_l, isL_r, tk_z, tk_s, psh_n, psh_s, ent_e, entL_n, entL_c, cc_eq, cc_ne, cc_lt, cc_ge, cc_gt, cc_le, swt_n, swt_c, lsw_n, lsw_c, mPs, NSTR_e, akds, alens, cnts, arfs, inb_e, lcm_lt, lcm_gt, lcm_ge, lcm_le, lcm_eq, lcm_a, lcm_b, Int.reduceToNat, Nat.reduceDiv, Nat.reduceMod, Nat.reduceMul, Nat.reduceAdd, Nat.reduceSub, Nat.reduceLT, Nat.reduceLeDiff, Nat.reduceEqDiff, Int.reduceNeg, Int.reduceAdd, Nat.one_mul, Nat.zero_mul, Nat.add_zero, Nat.zero_add, if_true, if_false, eq_self, true_and, and_true, true_or, or_true, false_or, or_false, List.length_cons, List.length_nil, List.cons_append, List.nil_append, List.replicate_zero, List.replicate_succ, Nat.lt_irrefl, reduceCtorEq, Bool.false_eq_true, in32, in64, Int.reduceLE, Int.reduceLT, Int.reduceEq, Int.reduceNe, not_true_eq_false, not_false_eq_true, true_implies, false_implies, implies_true, false_and, and_false, and_self, b_X5_valueOf, r_X5_valueOf, h_X5_valueOf_4, k1, k2, k3, k4, k6, e60, e61, eKd, e28, hc1, hcc, hv0, Int.toNat_natCast, Int.reduceSub]
        (repeat' with_reducible first | apply And.intro | intro _)
        all_goals try omega
        exact ih ((1 - v) :: s) _ (k + 1) _ _ _ _ _ _ _ (by simp; omega) (by omega) rfl rfl (eqx_mu he (by decide)) (rpr_mu (by omega) hr.2) hty' (by simp; omega) htr (by omega) hg' hin' hv'
      · have h5 : ∃ b1 b3 r, tys = b1 :: b1 :: r ∧ tys' = b3 :: r ∧ (3000 ≤ c ∧ c ≤ 3008 ∧ ¬ c = 3006) ∧ (b1 = true ↔ (c = 3007 ∨ c = 3008)) := by
          rcases h4 with ⟨h1, r, rfl, rfl⟩ | ⟨h1, r, rfl, rfl⟩ | ⟨h1, r, rfl, rfl⟩
          · exact ⟨true, true, r, rfl, rfl, by omega, by simp; exact h1⟩
          · exact ⟨false, true, r, rfl, rfl, by omega, by simp; omega⟩
          · exact ⟨false, false, r, rfl, rfl, by omega, by simp; omega⟩
        obtain ⟨b1, b3, r, rfl, rfl, cc, cb⟩ := h5
        obtain ⟨v, u, s, rfl, g1, g2, g3⟩ := tyd_2 hty
        simp only [List.length_cons] at hn2 hlst hlen
        have bb : ∀ {x : Int}, (if b1 = true then x = 0 ∨ x = 1 else -1000000 ≤ x ∧ x ≤ 1000000) → -1000000 ≤ x ∧ x ≤ 1000000 := fun {x} h => by
          split at h
          · omega
          · exact h
        have gv := bb g1
        have gu := bb g2
        obtain ⟨j1, j2⟩ := jnd_btw cc cb g2 g1
        have hv0 : σc 27 w (m + -1).toNat = v := by
          rw [show (m + -1).toNat = s.length + 1 by omega]
          exact hr.1
        have hu0 : σc 27 w (m + -1 - 1).toNat = u := by
          rw [show (m + -1 - 1).toNat = s.length by omega]
          exact hr.2.1
        have e : lstep ws c (v :: u :: s) = btw c u v :: s := by
          unfold lstep
          rw [if_neg (by omega), if_neg (by omega), if_neg (by omega)]
        rw [e] at hv' hty'
        have ib : 2001 ≤ itr c ∧ itr c ≤ 2008 := by
          unfold itr
          rw [if_neg (by omega), if_neg (by omega)]
          split <;> omega
        generalize hic : itr c = ic at *
        refine l_X5_valueOf_4 ?_
        simp only [wp_c, st_iload, st_lload, st_aload, st_istore, st_lstore, st_astore, st_iinc, st_sipush, st_jsr_w, st_goto, st_jsr, st_goto_w, st_if_icmp, st_ifCond, st_iadd, st_isub, st_imul, st_idiv, st_irem, st_iand, st_ior, st_ixor, st_ishl, st_ishr, st_iushr, st_ladd, st_lsub, st_lmul, st_ldiv, st_lrem, st_land, st_lor, st_lshl, st_lshr, st_i2l, st_l2i, st_i2b, st_i2s, st_i2c, st_lcmp, st_dup, st_pop, st_dup2, st_pop2, st_getfield, st_getstatic, st_checkcast, st_instanceof, st_putfield, st_putstatic, st_dstore, st_iaload, st_baload, st_laload, st_aaload, st_iastore, st_bastore, st_lastore, st_arraylength, st_dcmpg, st_dcmpl, st_fcmpg, st_fcmpl, st_monitorenter, st_tableswitch, st_multianewarray, st_invokeinterface, st_ireturn, st_lreturn, st_return_, st_ldc, st_ldc_w, st_ldc2_w, st_freturn, st_invokevirtual, st_anewarray0, st_anewarray1, st_anewarray2, st_anewarray3, st_anewarray4, st_anewarray5, st_lookupswitch, popI_c, popL_c, popR_c, popV_c, getI_c, getL_c, getR_c, lg_z, lg_s, ls1_z, ls1_o, ls1_s, ls2_z, ls2_o, ls2_s, noL_i, noL_l, noL_r, isL_i, isL_l, isL_r, tk_z, tk_s, psh_n, psh_s, ent_e, entL_n, entL_c, cc_eq, cc_ne, cc_lt, cc_ge, cc_gt, cc_le, swt_n, swt_c, lsw_n, lsw_c, mPs, NSTR_e, akds, alens, cnts, arfs, inb_e, lcm_lt, lcm_gt, lcm_ge, lcm_le, lcm_eq, lcm_a, lcm_b, Int.reduceToNat, Nat.reduceDiv, Nat.reduceMod, Nat.reduceMul, Nat.reduceAdd, Nat.reduceSub, Nat.reduceLT, Nat.reduceLeDiff, Nat.reduceEqDiff, Int.reduceNeg, Int.reduceAdd, Nat.one_mul, Nat.zero_mul, Nat.add_zero, Nat.zero_add, if_true, if_false, eq_self, true_and, and_true, true_or, or_true, false_or, or_false, List.length_cons, List.length_nil, List.cons_append, List.nil_append, List.replicate_zero, List.replicate_succ, Nat.lt_irrefl, reduceCtorEq, Bool.false_eq_true, in32, in64, Int.reduceLE, Int.reduceLT, Int.reduceEq, Int.reduceNe, not_true_eq_false, not_false_eq_true, true_implies, false_implies, implies_true, false_and, and_false, and_self, b_X5_valueOf, r_X5_valueOf, h_X5_valueOf_4, k1, k2, k3, k4, k6, e60, e61, eKd, e28, hc1, hcc, hv0, hu0, Int.toNat_natCast]
        (repeat' with_reducible first | apply And.intro | intro _)
        all_goals try omega
        rw [← hic]
        refine c_joined cc gu gv ?_
        unfold in64 at j2
        have im : -1000000 ≤ imin 1000000 (jnd c u v) ∨ imin 1000000 (jnd c u v) < -1000000 := by omega
        have im2 : imin 1000000 (jnd c u v) = 1000000 ∨ imin 1000000 (jnd c u v) = jnd c u v := by
          unfold imin
          split <;> simp
        simp only [wp_c, st_iload, st_lload, st_aload, st_istore, st_lstore, st_astore, st_iinc, st_sipush, st_jsr_w, st_goto, st_jsr, st_goto_w, st_if_icmp, st_ifCond, st_iadd, st_isub, st_imul, st_idiv, st_irem, st_iand, st_ior, st_ixor, st_ishl, st_ishr, st_iushr, st_ladd, st_lsub, st_lmul, st_ldiv, st_lrem, st_land, st_lor, st_lshl, st_lshr, st_i2l, st_l2i, st_i2b, st_i2s, st_i2c, st_lcmp, st_dup, st_pop, st_dup2, st_pop2, st_getfield, st_getstatic, st_checkcast, st_instanceof, st_putfield, st_putstatic, st_dstore, st_iaload, st_baload, st_laload, st_aaload, st_iastore, st_bastore, st_lastore, st_arraylength, st_dcmpg, st_dcmpl, st_fcmpg, st_fcmpl, st_monitorenter, st_tableswitch, st_multianewarray, st_invokeinterface, st_ireturn, st_lreturn, st_return_, st_ldc, st_ldc_w, st_ldc2_w, st_freturn, st_invokevirtual, st_anewarray0, st_anewarray1, st_anewarray2, st_anewarray3, st_anewarray4, st_anewarray5, st_lookupswitch, popI_c, popL_c, popR_c, popV_c, getI_c, getL_c, getR_c, lg_z, lg_s, ls1_z, ls1_o, ls1_s, ls2_z, ls2_o, ls2_s, noL_i, noL_l, noL_r, isL_i, isL_l, isL_r, tk_z, tk_s, psh_n, psh_s, ent_e, entL_n, entL_c, cc_eq, cc_ne, cc_lt, cc_ge, cc_gt, cc_le, swt_n, swt_c, lsw_n, lsw_c, mPs, NSTR_e, akds, alens, cnts, arfs, inb_e, lcm_lt, lcm_gt, lcm_ge, lcm_le, lcm_eq, lcm_a, lcm_b, Int.reduceToNat, Nat.reduceDiv, Nat.reduceMod, Nat.reduceMul, Nat.reduceAdd, Nat.reduceSub, Nat.reduceLT, Nat.reduceLeDiff, Nat.reduceEqDiff, Int.reduceNeg, Int.reduceAdd, Nat.one_mul, Nat.zero_mul, Nat.add_zero, Nat.zero_add, if_true, if_false, eq_self, true_and, and_true, true_or, or_true, false_or, or_false, List.length_cons, List.length_nil, List.cons_append, List.nil_append, List.replicate_zero, List.replicate_succ, Nat.lt_irrefl, reduceCtorEq, Bool.false_eq_true, in32, in64, Int.reduceLE, Int.reduceLT, Int.reduceEq, Int.reduceNe, not_true_eq_false, not_false_eq_true, true_implies, false_implies, implies_true, false_and, and_false, and_self, b_X5_valueOf, r_X5_valueOf, j1]
        (repeat' with_reducible first | apply And.intro | intro _)
        all_goals try omega
        exact ih (btw c u v :: s) _ (k + 1) _ _ _ _ _ _ _ (by simp; omega) (by omega) rfl rfl (eqx_mu he (by decide)) (rpr_mu (by omega) hr.2.2) hty' (by simp; omega) htr (by omega) hg' hin' hv'
  refine e_X5_valueOf (Nat.le_of_ble_eq_true rfl) ?_
  simp only [wp_c, st_iload, st_lload, st_aload, st_istore, st_lstore, st_astore, st_iinc, st_sipush, st_jsr_w, st_goto, st_jsr, st_goto_w, st_if_icmp, st_ifCond, st_iadd, st_isub, st_imul, st_idiv, st_irem, st_iand, st_ior, st_ixor, st_ishl, st_ishr, st_iushr, st_ladd, st_lsub, st_lmul, st_ldiv, st_lrem, st_land, st_lor, st_lshl, st_lshr, st_i2l, st_l2i, st_i2b, st_i2s, st_i2c, st_lcmp, st_dup, st_pop, st_dup2, st_pop2, st_getfield, st_getstatic, st_checkcast, st_instanceof, st_putfield, st_putstatic, st_dstore, st_iaload, st_baload, st_laload, st_aaload, st_iastore, st_bastore, st_lastore, st_arraylength, st_dcmpg, st_dcmpl, st_fcmpg, st_fcmpl, st_monitorenter, st_tableswitch, st_multianewarray, st_invokeinterface, st_ireturn, st_lreturn, st_return_, st_ldc, st_ldc_w, st_ldc2_w, st_freturn, st_invokevirtual, st_anewarray0, st_anewarray1, st_anewarray2, st_anewarray3, st_anewarray4, st_anewarray5, st_lookupswitch, popI_c, popL_c, popR_c, popV_c, getI_c, getL_c, getR_c, lg_z, lg_s, ls1_z, ls1_o, ls1_s, ls2_z, ls2_o, ls2_s, noL_i, noL_l, noL_r, isL_i, isL_l, isL_r, tk_z, tk_s, psh_n, psh_s, ent_e, entL_n, entL_c, cc_eq, cc_ne, cc_lt, cc_ge, cc_gt, cc_le, swt_n, swt_c, lsw_n, lsw_c, mPs, NSTR_e, akds, alens, cnts, arfs, inb_e, lcm_lt, lcm_gt, lcm_ge, lcm_le, lcm_eq, lcm_a, lcm_b, Int.reduceToNat, Nat.reduceDiv, Nat.reduceMod, Nat.reduceMul, Nat.reduceAdd, Nat.reduceSub, Nat.reduceLT, Nat.reduceLeDiff, Nat.reduceEqDiff, Int.reduceNeg, Int.reduceAdd, Nat.one_mul, Nat.zero_mul, Nat.add_zero, Nat.zero_add, if_true, if_false, eq_self, true_and, and_true, true_or, or_true, false_or, or_false, List.length_cons, List.length_nil, List.cons_append, List.nil_append, List.replicate_zero, List.replicate_succ, Nat.lt_irrefl, reduceCtorEq, Bool.false_eq_true, in32, in64, Int.reduceLE, Int.reduceLT, Int.reduceEq, Int.reduceNe, not_true_eq_false, not_false_eq_true, true_implies, false_implies, implies_true, false_and, and_false, and_self, b_X5_valueOf, r_X5_valueOf]
  exact H cs [] [] 0 _ _ _ _ _ _ σ rfl rfl rfl rfl eqx.rf trivial trivial (by decide) ht (by simp) (fun i c h => by simpa using h) (fun _ h => h) rfl
end CLS
