/-! 20: planks that break -/
def brkz (a : BV) (k z : Int) : BV := fun j => if j = 21 then ior (a 21) (2 ^ k.toNat) else if 30 ≤ (j : Int) ∧ (j : Int) < 30 + z ∧ a j = k + 1 then -1 else a j
def brk (a : BV) (k : Int) : BV := brkz a k (a 2)
def mBr (lw : List Int) : Nat → BV → BV
  | 0, a => a
  | n + 1, a => if frst a (lie a lw) = -1 then a else mBr lw n (brk a (frst a (lie a lw)))
/-- what weights rest on -/
def eqW (a b : BV) : Prop := b 2 = a 2 ∧ b 18 = a 18 ∧ b 19 = a 19 ∧ ∀ k : Nat, 36 ≤ k → k < 72 → b k = a k
theorem dz_w {a b : BV} (h : eqW a b) {p q : Int} (hp : 0 ≤ p ∧ p < 6) (hq : 0 ≤ q ∧ q < 6) : dz b p q = dz a p q := h.2.2.2 _ (by omega) (by omega)
theorem wgt_w {a b : BV} (h : eqW a b) (hP : 0 ≤ a 2 ∧ a 2 ≤ 6) {lw : List Int} {p : Int} (hp : 0 ≤ p ∧ p < 6) : wgt b lw p = wgt a lw p := by
  have e1 : mDebtOf b p = mDebtOf a p := by
    unfold mDebtOf
    rw [h.1]
    exact sumZ_congr _ (fun i a1 a2 => dz_w h hp ⟨a1, by omega⟩)
  have e2 : mPapersOf b p = mPapersOf a p := by
    unfold mPapersOf
    rw [h.1]
    exact sumZ_congr _ (fun i a1 a2 => by rw [dz_w h hp ⟨a1, by omega⟩])
  have e3 : mOwedTo b p = mOwedTo a p := by
    unfold mOwedTo
    rw [h.1]
    exact sumZ_congr _ (fun i a1 a2 => dz_w h ⟨a1, by omega⟩ hp)
  have e4 : wsW b p = wsW a p := by
    funext i
    unfold wsW
    rw [e1, e2, e3, h.2.1, h.2.2.1]
  unfold wgt
  rw [e1, e4]
theorem brk_w {a : BV} {k : Int} (z : Int) (hz : z ≤ 6) : eqW a (brkz a k z) := by
  refine ⟨?_, ?_, ?_, fun j h1 h2 => ?_⟩ <;> unfold brkz
  · rw [if_neg (by decide), if_neg (by omega)]
  · rw [if_neg (by decide), if_neg (by omega)]
  · rw [if_neg (by decide), if_neg (by omega)]
  · rw [if_neg (by omega), if_neg (by omega)]
theorem orb : ∀ n : Fin 256, ∀ k : Fin 8, (n.val ||| 2 ^ k.val) < 256 ∧ ∀ i : Fin 8, (n.val ||| 2 ^ k.val) / 2 ^ i.val % 2 = if i.val = k.val then 1 else n.val / 2 ^ i.val % 2 := by decide +kernel
theorem orb2 {n k : Nat} (hn : n < 256) (hk : k < 8) : (n ||| 2 ^ k) < 256 ∧ ∀ i : Nat, (n ||| 2 ^ k) / 2 ^ i % 2 = if i = k then 1 else n / 2 ^ i % 2 := by
  have h := orb ⟨n, hn⟩ ⟨k, hk⟩
  refine ⟨h.1, fun i => ?_⟩
  by_cases hi : i < 8
  · exact h.2 ⟨i, hi⟩
  · have hp : 2 ^ 8 ≤ 2 ^ i := Nat.pow_le_pow_right (by decide) (by omega)
    have h1 := h.1
    simp only at h1
    rw [Nat.div_eq_of_lt (by omega), if_neg (by omega), Nat.div_eq_of_lt (by omega)]
theorem ior_b {x : Int} {k : Nat} (hx : 0 ≤ x ∧ x < 256) (hk : k < 8) : (0 ≤ ior x (2 ^ k) ∧ ior x (2 ^ k) < 256) ∧ ∀ i : Nat, ior x (2 ^ k) / 2 ^ i % 2 = if i = k then 1 else x / 2 ^ i % 2 := by
  obtain ⟨n, rfl⟩ : ∃ n : Nat, x = n := ⟨x.toNat, by omega⟩
  have hn : n < 256 := by omega
  have hk2 : 2 ^ k < 2147483648 := Nat.pow_lt_pow_right (a := 2) (m := k) (n := 31) (by decide) (by omega)
  have e : ior (n : Int) (2 ^ k) = ((n ||| 2 ^ k : Nat) : Int) := by
    rw [← ior_n (by omega) hk2]
    congr 1
  obtain ⟨h1, h2⟩ := orb2 hn hk
  rw [e]
  refine ⟨⟨by omega, by omega⟩, fun i => ?_⟩
  have h3 := h2 i
  have : (((n ||| 2 ^ k) / 2 ^ i % 2 : Nat) : Int) = (((if i = k then 1 else n / 2 ^ i % 2) : Nat) : Int) := by rw [h3]
  split at this
  · rename_i c
    rw [if_pos c]
    push_cast at this ⊢
    exact this
  · rename_i c
    rw [if_neg c]
    push_cast at this ⊢
    exact this
theorem brk_ok {a : BV} (ho : OkA a) {k : Int} (hk : 0 ≤ k ∧ k < a 1) : OkA (brk a k) := by
  have hP := ho.P
  have hN := ho.N
  have hB := ior_b ho.broken (k := k.toNat) (by omega)
  have e : ∀ j : Nat, ¬ j = 21 → ¬ (30 ≤ j ∧ j < 36) → brk a k j = a j := fun j h1 h2 => by
    unfold brk brkz
    rw [if_neg h1, if_neg (by omega)]
  have e21 : brk a k 21 = ior (a 21) (2 ^ k.toNat) := rfl
  refine ⟨?_, ?_, ?_, fun i hi => ?_, ?_, ?_, ?_, ?_, fun i hi => ?_, fun p hp => ?_, fun i hi => ?_, fun p hp => ?_, fun p q hp hq h => ?_, fun i hi => ?_⟩
  · rw [e 1 (by decide) (by decide)]; exact hN
  · rw [e 2 (by decide) (by decide)]; exact hP
  · rw [e 3 (by decide) (by decide)]; exact ho.snowy
  · rw [e _ (by omega) (by omega)]; exact ho.2.2.2.1 i hi
  · rw [e 18 (by decide) (by decide)]; exact ho.day
  · rw [e 19 (by decide) (by decide)]; exact ho.snow
  · trivial
  · rw [e21]; exact hB.1
  · rw [e _ (by omega) (by omega)]; exact ho.2.2.2.2.2.2.2.2.1 i hi
  · rw [e 1 (by decide) (by decide)]
    have := ho.2.2.2.2.2.2.2.2.2.1 p hp
    unfold brk brkz
    rw [if_neg (by omega)]
    split <;> omega
  · rw [e _ (by omega) (by omega)]; exact ho.2.2.2.2.2.2.2.2.2.2.1 i hi
  · rw [e _ (by omega) (by omega)]; exact ho.2.2.2.2.2.2.2.2.2.2.2.1 p hp
  · rw [e 2 (by decide) (by decide)] at h
    rw [e _ (by omega) (by omega)]; exact ho.2.2.2.2.2.2.2.2.2.2.2.2.1 p q hp hq h
  · rw [e 1 (by decide) (by decide)] at hi
    rw [e21, hB.2 i, if_neg (by omega)]
    exact ho.noPlank hi
/-- the laws' rows stay -/
def eqL (a b : BV) : Prop := ∀ k : Nat, (4 ≤ k ∧ k < 10) ∨ 614 ≤ k → b k = a k
theorem lawR_l {a b : BV} (h : eqL a b) {law : Nat} (hl : law < 2) : lawR b law = lawR a law := by
  unfold lawR
  rw [h (4 + law) (by omega), h (8 + law) (by omega), h (6 + law) (by omega)]
  have e : (fun i => b (614 + (a (6 + law)).toNat + i)) = fun i => a (614 + (a (6 + law)).toNat + i) := by
    funext i
    exact h _ (by omega)
  rw [e]
theorem LawA_l {a b : BV} (h : eqL a b) (hl : LawA a) : LawA b := by
  intro law hlaw
  obtain ⟨h1, h2, h3⟩ := hl law hlaw
  rw [lawR_l h hlaw, h (4 + law) (by omega), h (8 + law) (by omega), h (6 + law) (by omega)]
  exact ⟨h1, h2, h3⟩
theorem brk_l {a : BV} {k z : Int} (hz : z ≤ 6) : eqL a (brkz a k z) := by
  intro j hj
  unfold brkz
  rw [if_neg (by omega), if_neg (by omega)]
/-- how many planks aren't broken -/
def nub (a : BV) : Int := sumZ (fun i => if a 21 / 2 ^ i.toNat % 2 = 0 then 1 else 0) (a 1).toNat
theorem sumZ_mono {g h : Int → Int} : ∀ n : Nat, (∀ i : Int, 0 ≤ i → i < n → h i ≤ g i) → sumZ h n ≤ sumZ g n := by
  intro n
  induction n with
  | zero => intro _; exact Int.le_refl _
  | succ n ih =>
    intro h3
    show sumZ h n + h n ≤ sumZ g n + g n
    have h1 := ih (fun i a b => h3 i a (by omega))
    have h2 := h3 n (by omega) (by omega)
    omega
theorem sumZ_lt {g h : Int → Int} {k : Int} : ∀ n : Nat, 0 ≤ k → k < n → (∀ i : Int, 0 ≤ i → i < n → h i ≤ g i) → h k < g k → sumZ h n < sumZ g n := by
  intro n
  induction n with
  | zero => intro h1 h2; omega
  | succ n ih =>
    intro h1 h2 h3 h4
    show sumZ h n + h n < sumZ g n + g n
    have h5 := h3 n (by omega) (by omega)
    by_cases e : k = n
    · subst e
      have h6 := sumZ_mono n (fun i a b => h3 i a (by omega))
      omega
    · have := ih h1 (by omega) (fun i a b => h3 i a (by omega)) h4
      omega
theorem nub_le {a : BV} (ho : OkA a) : 0 ≤ nub a ∧ nub a ≤ 8 := by
  have hN := ho.N
  have := sumZ_le (g := fun i => if a 21 / 2 ^ i.toNat % 2 = 0 then 1 else 0) (b := 1) (a 1).toNat (fun i _ _ => by split <;> omega)
  unfold nub
  omega
theorem nub_brk {a : BV} (ho : OkA a) {k : Int} (hk : 0 ≤ k ∧ k < a 1) (hb : a 21 / 2 ^ k.toNat % 2 = 0) : nub (brk a k) < nub a := by
  have hN := ho.N
  have hB := (ior_b ho.broken (k := k.toNat) (by omega)).2
  have e1 : brk a k 1 = a 1 := by
    unfold brk brkz
    rw [if_neg (by decide), if_neg (by omega)]
  have e21 : brk a k 21 = ior (a 21) (2 ^ k.toNat) := rfl
  unfold nub
  rw [e1, e21]
  refine sumZ_lt (k := k) _ hk.1 (by omega) (fun i _ _ => ?_) ?_
  · rw [hB]
    by_cases c : i.toNat = k.toNat
    · rw [if_pos c, if_neg (by decide)]
      split <;> omega
    · rw [if_neg c]
      omega
  · rw [hB, if_pos rfl, if_neg (by decide), if_pos hb]
    omega
theorem frst_spec {a : BV} (ho : OkA a) (L : Int → Int) : frst a L = -1 ∨ (0 ≤ frst a L ∧ frst a L < a 1 ∧ a 21 / 2 ^ (frst a L).toNat % 2 = 0) := by
  have hN := ho.N
  rcases fz_spec (c := ovr a L) (a 1).toNat 0 (Int.le_refl _) with ⟨h1, -⟩ | ⟨h1, h2, h3, -⟩
  · exact Or.inl h1
  · refine Or.inr ⟨h1, ?_, ?_⟩
    · unfold frst; omega
    · exact (of_decide_eq_true h3).1
theorem mBr_ok {lw : List Int} : ∀ (n : Nat) {a : BV}, OkA a → OkA (mBr lw n a) := by
  intro n
  induction n with
  | zero => intro a h; exact h
  | succ n ih =>
    intro a h
    simp only [mBr]
    split
    · exact h
    · rename_i c
      rcases frst_spec h (lie a lw) with h1 | ⟨h1, h2, h3⟩
      · exact absurd h1 c
      · exact ih (brk_ok h ⟨h1, h2⟩)
theorem mBr_w {lw : List Int} : ∀ (n : Nat) {a : BV}, OkA a → eqL a (mBr lw n a) ∧ eqW a (mBr lw n a) := by
  intro n
  induction n with
  | zero => intro a _; exact ⟨fun _ _ => rfl, rfl, rfl, rfl, fun _ _ _ => rfl⟩
  | succ n ih =>
    intro a h
    have hP := h.P
    simp only [mBr]
    split
    · exact ⟨fun _ _ => rfl, rfl, rfl, rfl, fun _ _ _ => rfl⟩
    · rename_i c
      rcases frst_spec h (lie a lw) with h1 | ⟨h1, h2, h3⟩
      · exact absurd h1 c
      · obtain ⟨g1, g2⟩ := ih (brk_ok h ⟨h1, h2⟩)
        have l1 := brk_l (a := a) (k := frst a (lie a lw)) hP.2
        have w1 := brk_w (a := a) (k := frst a (lie a lw)) (a 2) hP.2
        exact ⟨fun k hk => (g1 k hk).trans (l1 k hk), g2.1.trans w1.1, g2.2.1.trans w1.2.1, g2.2.2.1.trans w1.2.2.1, fun k x y => (g2.2.2.2 k x y).trans (w1.2.2.2 k x y)⟩
section BREAKS
variable {d : Nat} {σ : Mem} {K : Option AV → Mem → Prop}
theorem q_breaks (ho : OkA (σ 44 0)) (hl : LawA (σ 44 0)) (hK : ∀ σ', eqx [44, 48, 49, 50] σ σ' → σ' 44 0 = mBr (lawR (σ 44 0) 0) 8 (σ 44 0) → K none σ') : Ev (d + 5) 187 [mo] σ K := by
  have hP0 := ho.P
  generalize hT : mBr (lawR (σ 44 0) 0) 8 (σ 44 0) = T at hK
  generalize hlw : lawR (σ 44 0) 0 = lw at hT
  have H : ∀ (n : Nat) (x : AV) (k : Int) (σc : Mem), isL x = false → eqx [44, 48, 49, 50] σ σc → OkA (σc 44 0) → LawA (σc 44 0) → lawR (σc 44 0) 0 = lw → nub (σc 44 0) ≤ n → k = frst (σc 44 0) (lie (σc 44 0) lw) → mBr lw n (σc 44 0) = T → Rn (d + 5) 187 9 [mo, .inl k, x] [] σc K := by
    intro n
    induction n with
    | zero =>
      intro x k σc hx he hok hla hlr hnu hk hm
      have e : k = -1 := by
        rcases frst_spec hok (lie (σc 44 0) lw) with h1 | ⟨h1, h2, h3⟩
        · rw [hk, h1]
        · have := nub_brk hok ⟨h1, h2⟩ h3
          have := (nub_le (brk_ok hok ⟨h1, h2⟩)).1
          omega
      subst e
      refine l_X12_breaks_9 ?_
      simp only [wp_c, st_iload, st_lload, st_aload, st_istore, st_lstore, st_astore, st_iinc, st_sipush, st_jsr_w, st_goto, st_jsr, st_goto_w, st_if_icmp, st_ifCond, st_iadd, st_isub, st_imul, st_idiv, st_irem, st_iand, st_ior, st_ixor, st_ishl, st_ishr, st_iushr, st_ladd, st_lsub, st_lmul, st_ldiv, st_lrem, st_land, st_lor, st_lshl, st_lshr, st_i2l, st_l2i, st_i2b, st_i2s, st_i2c, st_lcmp, st_dup, st_pop, st_dup2, st_pop2, st_getfield, st_getstatic, st_checkcast, st_instanceof, st_putfield, st_putstatic, st_dstore, st_iaload, st_baload, st_laload, st_aaload, st_iastore, st_bastore, st_lastore, st_arraylength, st_dcmpg, st_dcmpl, st_fcmpg, st_fcmpl, st_monitorenter, st_tableswitch, st_multianewarray, st_invokeinterface, st_ireturn, st_lreturn, st_return_, st_ldc, st_ldc_w, st_ldc2_w, st_freturn, st_invokevirtual, st_anewarray0, st_anewarray1, st_anewarray2, st_anewarray3, st_anewarray4, st_anewarray5, st_lookupswitch, popI_c, popL_c, popR_c, popV_c, getI_c, getL_c, getR_c, lg_z, lg_s, ls1_z, ls1_o, ls1_s, ls2_z, ls2_o, ls2_s, noL_i, noL_l, noL_r, isL_i, isL_l, isL_r, tk_z, tk_s, psh_n, psh_s, ent_e, entL_n, entL_c, cc_eq, cc_ne, cc_lt, cc_ge, cc_gt, cc_le, swt_n, swt_c, lsw_n, lsw_c, mPs, NSTR_e, akds, alens, cnts, arfs, inb_e, lcm_lt, lcm_gt, lcm_ge, lcm_le, lcm_eq, lcm_a, lcm_b, Int.reduceToNat, Nat.reduceDiv, Nat.reduceMod, Nat.reduceMul, Nat.reduceAdd, Nat.reduceSub, Nat.reduceLT, Nat.reduceLeDiff, Nat.reduceEqDiff, Int.reduceNeg, Int.reduceAdd, Nat.one_mul, Nat.zero_mul, Nat.add_zero, Nat.zero_add, if_true, if_false, eq_self, true_and, and_true, true_or, or_true, false_or, or_false, List.length_cons, List.length_nil, List.cons_append, List.nil_append, List.replicate_zero, List.replicate_succ, Nat.lt_irrefl, reduceCtorEq, Bool.false_eq_true, in32, in64, Int.reduceLE, Int.reduceLT, Int.reduceEq, Int.reduceNe, not_true_eq_false, not_false_eq_true, true_implies, false_implies, implies_true, false_and, and_false, and_self, b_X12_breaks, r_X12_breaks, h_X12_breaks_9]
      (repeat' with_reducible first | apply And.intro | intro _)
      all_goals try omega
      all_goals exact hK σc he hm
    | succ n ih =>
      intro x k σc hx he hok hla hlr hnu hk hm
      simp only [mBr] at hm
      rw [← hk] at hm
      by_cases e : k = -1
      · rw [if_pos e] at hm
        subst e
        refine l_X12_breaks_9 ?_
        simp only [wp_c, st_iload, st_lload, st_aload, st_istore, st_lstore, st_astore, st_iinc, st_sipush, st_jsr_w, st_goto, st_jsr, st_goto_w, st_if_icmp, st_ifCond, st_iadd, st_isub, st_imul, st_idiv, st_irem, st_iand, st_ior, st_ixor, st_ishl, st_ishr, st_iushr, st_ladd, st_lsub, st_lmul, st_ldiv, st_lrem, st_land, st_lor, st_lshl, st_lshr, st_i2l, st_l2i, st_i2b, st_i2s, st_i2c, st_lcmp, st_dup, st_pop, st_dup2, st_pop2, st_getfield, st_getstatic, st_checkcast, st_instanceof, st_putfield, st_putstatic, st_dstore, st_iaload, st_baload, st_laload, st_aaload, st_iastore, st_bastore, st_lastore, st_arraylength, st_dcmpg, st_dcmpl, st_fcmpg, st_fcmpl, st_monitorenter, st_tableswitch, st_multianewarray, st_invokeinterface, st_ireturn, st_lreturn, st_return_, st_ldc, st_ldc_w, st_ldc2_w, st_freturn, st_invokevirtual, st_anewarray0, st_anewarray1, st_anewarray2, st_anewarray3, st_anewarray4, st_anewarray5, st_lookupswitch, popI_c, popL_c, popR_c, popV_c, getI_c, getL_c, getR_c, lg_z, lg_s, ls1_z, ls1_o, ls1_s, ls2_z, ls2_o, ls2_s, noL_i, noL_l, noL_r, isL_i, isL_l, isL_r, tk_z, tk_s, psh_n, psh_s, ent_e, entL_n, entL_c, cc_eq, cc_ne, cc_lt, cc_ge, cc_gt, cc_le, swt_n, swt_c, lsw_n, lsw_c, mPs, NSTR_e, akds, alens, cnts, arfs, inb_e, lcm_lt, lcm_gt, lcm_ge, lcm_le, lcm_eq, lcm_a, lcm_b, Int.reduceToNat, Nat.reduceDiv, Nat.reduceMod, Nat.reduceMul, Nat.reduceAdd, Nat.reduceSub, Nat.reduceLT, Nat.reduceLeDiff, Nat.reduceEqDiff, Int.reduceNeg, Int.reduceAdd, Nat.one_mul, Nat.zero_mul, Nat.add_zero, Nat.zero_add, if_true, if_false, eq_self, true_and, and_true, true_or, or_true, false_or, or_false, List.length_cons, List.length_nil, List.cons_append, List.nil_append, List.replicate_zero, List.replicate_succ, Nat.lt_irrefl, reduceCtorEq, Bool.false_eq_true, in32, in64, Int.reduceLE, Int.reduceLT, Int.reduceEq, Int.reduceNe, not_true_eq_false, not_false_eq_true, true_implies, false_implies, implies_true, false_and, and_false, and_self, b_X12_breaks, r_X12_breaks, h_X12_breaks_9]
        (repeat' with_reducible first | apply And.intro | intro _)
        all_goals try omega
        all_goals exact hK σc he hm
      · rw [if_neg e] at hm
        rcases frst_spec hok (lie (σc 44 0) lw) with h1 | ⟨h1, h2, h3⟩
        · rw [h1] at hk; exact absurd hk e
        rw [← hk] at h1 h2 h3
        have hN := hok.N
        have hP := hok.P
        have hsh : ishl 1 k = 2 ^ k.toNat := by
          have := ishl_1 k.toNat (by omega)
          rw [Int.toNat_of_nonneg h1] at this
          exact this
        have hx2 : noL (.inr (.inr (some (12, 0)))) = (.inr (.inr (some (12, 0))) : AV) := rfl
        have hb := nub_brk hok ⟨h1, h2⟩ h3
        have hbo := brk_ok hok ⟨h1, h2⟩
        generalize ha : σc 44 0 = a at *
        refine l_X12_breaks_9 ?_
        simp only [wp_c, st_iload, st_lload, st_aload, st_istore, st_lstore, st_astore, st_iinc, st_sipush, st_jsr_w, st_goto, st_jsr, st_goto_w, st_if_icmp, st_ifCond, st_iadd, st_isub, st_imul, st_idiv, st_irem, st_iand, st_ior, st_ixor, st_ishl, st_ishr, st_iushr, st_ladd, st_lsub, st_lmul, st_ldiv, st_lrem, st_land, st_lor, st_lshl, st_lshr, st_i2l, st_l2i, st_i2b, st_i2s, st_i2c, st_lcmp, st_dup, st_pop, st_dup2, st_pop2, st_getfield, st_getstatic, st_checkcast, st_instanceof, st_putfield, st_putstatic, st_dstore, st_iaload, st_baload, st_laload, st_aaload, st_iastore, st_bastore, st_lastore, st_arraylength, st_dcmpg, st_dcmpl, st_fcmpg, st_fcmpl, st_monitorenter, st_tableswitch, st_multianewarray, st_invokeinterface, st_ireturn, st_lreturn, st_return_, st_ldc, st_ldc_w, st_ldc2_w, st_freturn, st_invokevirtual, st_anewarray0, st_anewarray1, st_anewarray2, st_anewarray3, st_anewarray4, st_anewarray5, st_lookupswitch, popI_c, popL_c, popR_c, popV_c, getI_c, getL_c, getR_c, lg_z, lg_s, ls1_z, ls1_o, ls1_s, ls2_z, ls2_o, ls2_s, noL_i, noL_l, noL_r, isL_i, isL_l, isL_r, tk_z, tk_s, psh_n, psh_s, ent_e, entL_n, entL_c, cc_eq, cc_ne, cc_lt, cc_ge, cc_gt, cc_le, swt_n, swt_c, lsw_n, lsw_c, mPs, NSTR_e, akds, alens, cnts, arfs, inb_e, lcm_lt, lcm_gt, lcm_ge, lcm_le, lcm_eq, lcm_a, lcm_b, Int.reduceToNat, Nat.reduceDiv, Nat.reduceMod, Nat.reduceMul, Nat.reduceAdd, Nat.reduceSub, Nat.reduceLT, Nat.reduceLeDiff, Nat.reduceEqDiff, Int.reduceNeg, Int.reduceAdd, Nat.one_mul, Nat.zero_mul, Nat.add_zero, Nat.zero_add, if_true, if_false, eq_self, true_and, and_true, true_or, or_true, false_or, or_false, List.length_cons, List.length_nil, List.cons_append, List.nil_append, List.replicate_zero, List.replicate_succ, Nat.lt_irrefl, reduceCtorEq, Bool.false_eq_true, in32, in64, Int.reduceLE, Int.reduceLT, Int.reduceEq, Int.reduceNe, not_true_eq_false, not_false_eq_true, true_implies, false_implies, implies_true, false_and, and_false, and_self, b_X12_breaks, r_X12_breaks, h_X12_breaks_9, ha, hsh]
        (repeat' with_reducible first | apply And.intro | intro _)
        all_goals try omega
        refine loop_up (S := Mem) (I := fun z σ2 => 0 ≤ z ∧ eqx [44, 48, 49, 50] σ σ2 ∧ σ2 44 0 = brkz a k z) (G := fun z σ2 => Rn (d + 5) 187 29 [mo, .inl k, .inl z] [] σ2 K) (P := a 2) ?_ ?_ 0 _ hP.1 ⟨Int.le_refl _, eqx_mu he (by decide), ?_⟩
        · rintro σ2 ⟨g1, g2, g3⟩
          have g4 : σ2 44 0 2 = a 2 := by rw [g3]; exact (brk_w (a := a) (k := k) (a 2) hP.2).1
          have g5 : σ2 44 0 = brk a k := g3
          have ho2 : OkA (σ2 44 0) := by rw [g5]; exact hbo
          have hl2 : LawA (σ2 44 0) := by rw [g5]; exact LawA_l (brk_l hP.2) hla
          have hr2 : lawR (σ2 44 0) 0 = lw := by rw [g5, ← hlr]; exact lawR_l (brk_l hP.2) (by decide)
          refine l_X12_breaks_29 ?_
          simp only [wp_c, st_iload, st_lload, st_aload, st_istore, st_lstore, st_astore, st_iinc, st_sipush, st_jsr_w, st_goto, st_jsr, st_goto_w, st_if_icmp, st_ifCond, st_iadd, st_isub, st_imul, st_idiv, st_irem, st_iand, st_ior, st_ixor, st_ishl, st_ishr, st_iushr, st_ladd, st_lsub, st_lmul, st_ldiv, st_lrem, st_land, st_lor, st_lshl, st_lshr, st_i2l, st_l2i, st_i2b, st_i2s, st_i2c, st_lcmp, st_dup, st_pop, st_dup2, st_pop2, st_getfield, st_getstatic, st_checkcast, st_instanceof, st_putfield, st_putstatic, st_dstore, st_iaload, st_baload, st_laload, st_aaload, st_iastore, st_bastore, st_lastore, st_arraylength, st_dcmpg, st_dcmpl, st_fcmpg, st_fcmpl, st_monitorenter, st_tableswitch, st_multianewarray, st_invokeinterface, st_ireturn, st_lreturn, st_return_, st_ldc, st_ldc_w, st_ldc2_w, st_freturn, st_invokevirtual, st_anewarray0, st_anewarray1, st_anewarray2, st_anewarray3, st_anewarray4, st_anewarray5, st_lookupswitch, popI_c, popL_c, popR_c, popV_c, getI_c, getL_c, getR_c, lg_z, lg_s, ls1_z, ls1_o, ls1_s, ls2_z, ls2_o, ls2_s, noL_i, noL_l, noL_r, isL_i, isL_l, isL_r, tk_z, tk_s, psh_n, psh_s, ent_e, entL_n, entL_c, cc_eq, cc_ne, cc_lt, cc_ge, cc_gt, cc_le, swt_n, swt_c, lsw_n, lsw_c, mPs, NSTR_e, akds, alens, cnts, arfs, inb_e, lcm_lt, lcm_gt, lcm_ge, lcm_le, lcm_eq, lcm_a, lcm_b, Int.reduceToNat, Nat.reduceDiv, Nat.reduceMod, Nat.reduceMul, Nat.reduceAdd, Nat.reduceSub, Nat.reduceLT, Nat.reduceLeDiff, Nat.reduceEqDiff, Int.reduceNeg, Int.reduceAdd, Nat.one_mul, Nat.zero_mul, Nat.add_zero, Nat.zero_add, if_true, if_false, eq_self, true_and, and_true, true_or, or_true, false_or, or_false, List.length_cons, List.length_nil, List.cons_append, List.nil_append, List.replicate_zero, List.replicate_succ, Nat.lt_irrefl, reduceCtorEq, Bool.false_eq_true, in32, in64, Int.reduceLE, Int.reduceLT, Int.reduceEq, Int.reduceNe, not_true_eq_false, not_false_eq_true, true_implies, false_implies, implies_true, false_and, and_false, and_self, b_X12_breaks, r_X12_breaks, h_X12_breaks_29, g4]
          (repeat' with_reducible first | apply And.intro | intro _)
          all_goals try omega
          refine q_laysNow ho2 hl2 (fun σ3 f1 f2 => ?_)
          rw [hr2] at f2
          have e44 : σ3 44 = σ2 44 := f1 44 (by decide)
          have ho3 : OkA (σ3 44 0) := by rw [e44]; exact ho2
          simp only [wp_c, st_iload, st_lload, st_aload, st_istore, st_lstore, st_astore, st_iinc, st_sipush, st_jsr_w, st_goto, st_jsr, st_goto_w, st_if_icmp, st_ifCond, st_iadd, st_isub, st_imul, st_idiv, st_irem, st_iand, st_ior, st_ixor, st_ishl, st_ishr, st_iushr, st_ladd, st_lsub, st_lmul, st_ldiv, st_lrem, st_land, st_lor, st_lshl, st_lshr, st_i2l, st_l2i, st_i2b, st_i2s, st_i2c, st_lcmp, st_dup, st_pop, st_dup2, st_pop2, st_getfield, st_getstatic, st_checkcast, st_instanceof, st_putfield, st_putstatic, st_dstore, st_iaload, st_baload, st_laload, st_aaload, st_iastore, st_bastore, st_lastore, st_arraylength, st_dcmpg, st_dcmpl, st_fcmpg, st_fcmpl, st_monitorenter, st_tableswitch, st_multianewarray, st_invokeinterface, st_ireturn, st_lreturn, st_return_, st_ldc, st_ldc_w, st_ldc2_w, st_freturn, st_invokevirtual, st_anewarray0, st_anewarray1, st_anewarray2, st_anewarray3, st_anewarray4, st_anewarray5, st_lookupswitch, popI_c, popL_c, popR_c, popV_c, getI_c, getL_c, getR_c, lg_z, lg_s, ls1_z, ls1_o, ls1_s, ls2_z, ls2_o, ls2_s, noL_i, noL_l, noL_r, isL_i, isL_l, isL_r, tk_z, tk_s, psh_n, psh_s, ent_e, entL_n, entL_c, cc_eq, cc_ne, cc_lt, cc_ge, cc_gt, cc_le, swt_n, swt_c, lsw_n, lsw_c, mPs, NSTR_e, akds, alens, cnts, arfs, inb_e, lcm_lt, lcm_gt, lcm_ge, lcm_le, lcm_eq, lcm_a, lcm_b, Int.reduceToNat, Nat.reduceDiv, Nat.reduceMod, Nat.reduceMul, Nat.reduceAdd, Nat.reduceSub, Nat.reduceLT, Nat.reduceLeDiff, Nat.reduceEqDiff, Int.reduceNeg, Int.reduceAdd, Nat.one_mul, Nat.zero_mul, Nat.add_zero, Nat.zero_add, if_true, if_false, eq_self, true_and, and_true, true_or, or_true, false_or, or_false, List.length_cons, List.length_nil, List.cons_append, List.nil_append, List.replicate_zero, List.replicate_succ, Nat.lt_irrefl, reduceCtorEq, Bool.false_eq_true, in32, in64, Int.reduceLE, Int.reduceLT, Int.reduceEq, Int.reduceNe, not_true_eq_false, not_false_eq_true, true_implies, false_implies, implies_true, false_and, and_false, and_self, b_X12_breaks, r_X12_breaks]
          refine q_firstOver (L := lie (σ3 44 0) lw) ho3 (fun k a b => by rw [e44]; exact f2 k a b) (fun k _ _ => by have := lie_le ho3 (lw := lw) (k := k); omega) ?_
          simp only [wp_c, st_iload, st_lload, st_aload, st_istore, st_lstore, st_astore, st_iinc, st_sipush, st_jsr_w, st_goto, st_jsr, st_goto_w, st_if_icmp, st_ifCond, st_iadd, st_isub, st_imul, st_idiv, st_irem, st_iand, st_ior, st_ixor, st_ishl, st_ishr, st_iushr, st_ladd, st_lsub, st_lmul, st_ldiv, st_lrem, st_land, st_lor, st_lshl, st_lshr, st_i2l, st_l2i, st_i2b, st_i2s, st_i2c, st_lcmp, st_dup, st_pop, st_dup2, st_pop2, st_getfield, st_getstatic, st_checkcast, st_instanceof, st_putfield, st_putstatic, st_dstore, st_iaload, st_baload, st_laload, st_aaload, st_iastore, st_bastore, st_lastore, st_arraylength, st_dcmpg, st_dcmpl, st_fcmpg, st_fcmpl, st_monitorenter, st_tableswitch, st_multianewarray, st_invokeinterface, st_ireturn, st_lreturn, st_return_, st_ldc, st_ldc_w, st_ldc2_w, st_freturn, st_invokevirtual, st_anewarray0, st_anewarray1, st_anewarray2, st_anewarray3, st_anewarray4, st_anewarray5, st_lookupswitch, popI_c, popL_c, popR_c, popV_c, getI_c, getL_c, getR_c, lg_z, lg_s, ls1_z, ls1_o, ls1_s, ls2_z, ls2_o, ls2_s, noL_i, noL_l, noL_r, isL_i, isL_l, isL_r, tk_z, tk_s, psh_n, psh_s, ent_e, entL_n, entL_c, cc_eq, cc_ne, cc_lt, cc_ge, cc_gt, cc_le, swt_n, swt_c, lsw_n, lsw_c, mPs, NSTR_e, akds, alens, cnts, arfs, inb_e, lcm_lt, lcm_gt, lcm_ge, lcm_le, lcm_eq, lcm_a, lcm_b, Int.reduceToNat, Nat.reduceDiv, Nat.reduceMod, Nat.reduceMul, Nat.reduceAdd, Nat.reduceSub, Nat.reduceLT, Nat.reduceLeDiff, Nat.reduceEqDiff, Int.reduceNeg, Int.reduceAdd, Nat.one_mul, Nat.zero_mul, Nat.add_zero, Nat.zero_add, if_true, if_false, eq_self, true_and, and_true, true_or, or_true, false_or, or_false, List.length_cons, List.length_nil, List.cons_append, List.nil_append, List.replicate_zero, List.replicate_succ, Nat.lt_irrefl, reduceCtorEq, Bool.false_eq_true, in32, in64, Int.reduceLE, Int.reduceLT, Int.reduceEq, Int.reduceNe, not_true_eq_false, not_false_eq_true, true_implies, false_implies, implies_true, false_and, and_false, and_self, b_X12_breaks, r_X12_breaks]
          refine ih _ _ σ3 rfl (g2.tr (f1.wd (by decide))) ho3 (by rw [e44]; exact hl2) (by rw [e44]; exact hr2) (by rw [e44, g5]; omega) rfl (by rw [e44, g5]; exact hm)
        · rintro z σ2 hz ⟨g1, g2, g3⟩ ih2
          have g4 : σ2 44 0 2 = a 2 := by rw [g3]; exact (brk_w (a := a) (k := k) z (by omega)).1
          have pb := hok.place (p := z) ⟨g1, by omega⟩
          have g6 : σ2 44 0 (30 + z).toNat = a (30 + z).toNat := by
            rw [g3]
            unfold brkz
            rw [if_neg (by omega), if_neg (by omega)]
          refine l_X12_breaks_29 ?_
          simp only [wp_c, st_iload, st_lload, st_aload, st_istore, st_lstore, st_astore, st_iinc, st_sipush, st_jsr_w, st_goto, st_jsr, st_goto_w, st_if_icmp, st_ifCond, st_iadd, st_isub, st_imul, st_idiv, st_irem, st_iand, st_ior, st_ixor, st_ishl, st_ishr, st_iushr, st_ladd, st_lsub, st_lmul, st_ldiv, st_lrem, st_land, st_lor, st_lshl, st_lshr, st_i2l, st_l2i, st_i2b, st_i2s, st_i2c, st_lcmp, st_dup, st_pop, st_dup2, st_pop2, st_getfield, st_getstatic, st_checkcast, st_instanceof, st_putfield, st_putstatic, st_dstore, st_iaload, st_baload, st_laload, st_aaload, st_iastore, st_bastore, st_lastore, st_arraylength, st_dcmpg, st_dcmpl, st_fcmpg, st_fcmpl, st_monitorenter, st_tableswitch, st_multianewarray, st_invokeinterface, st_ireturn, st_lreturn, st_return_, st_ldc, st_ldc_w, st_ldc2_w, st_freturn, st_invokevirtual, st_anewarray0, st_anewarray1, st_anewarray2, st_anewarray3, st_anewarray4, st_anewarray5, st_lookupswitch, popI_c, popL_c, popR_c, popV_c, getI_c, getL_c, getR_c, lg_z, lg_s, ls1_z, ls1_o, ls1_s, ls2_z, ls2_o, ls2_s, noL_i, noL_l, noL_r, isL_i, isL_l, isL_r, tk_z, tk_s, psh_n, psh_s, ent_e, entL_n, entL_c, cc_eq, cc_ne, cc_lt, cc_ge, cc_gt, cc_le, swt_n, swt_c, lsw_n, lsw_c, mPs, NSTR_e, akds, alens, cnts, arfs, inb_e, lcm_lt, lcm_gt, lcm_ge, lcm_le, lcm_eq, lcm_a, lcm_b, Int.reduceToNat, Nat.reduceDiv, Nat.reduceMod, Nat.reduceMul, Nat.reduceAdd, Nat.reduceSub, Nat.reduceLT, Nat.reduceLeDiff, Nat.reduceEqDiff, Int.reduceNeg, Int.reduceAdd, Nat.one_mul, Nat.zero_mul, Nat.add_zero, Nat.zero_add, if_true, if_false, eq_self, true_and, and_true, true_or, or_true, false_or, or_false, List.length_cons, List.length_nil, List.cons_append, List.nil_append, List.replicate_zero, List.replicate_succ, Nat.lt_irrefl, reduceCtorEq, Bool.false_eq_true, in32, in64, Int.reduceLE, Int.reduceLT, Int.reduceEq, Int.reduceNe, not_true_eq_false, not_false_eq_true, true_implies, false_implies, implies_true, false_and, and_false, and_self, b_X12_breaks, r_X12_breaks, h_X12_breaks_29, g4, g6]
          (repeat' with_reducible first | apply And.intro | intro _)
          all_goals try omega
          · rename_i c
            refine ih2 _ ⟨by omega, g2, ?_⟩
            rw [g3]
            funext j
            unfold brkz
            by_cases j1 : j = 21
            · rw [if_pos j1, if_pos j1]
            · rw [if_neg j1, if_neg j1]
              by_cases j2 : j = (30 + z).toNat
              · subst j2
                rw [if_neg (by omega), if_neg (by omega)]
              · by_cases j3 : 30 ≤ (j : Int) ∧ (j : Int) < 30 + z ∧ a j = k + 1
                · rw [if_pos j3, if_pos (by omega)]
                · rw [if_neg j3, if_neg (by omega)]
          · rename_i c
            refine ih2 _ ⟨by omega, eqx_mu g2 (by decide), ?_⟩
            funext j
            rw [mu_at, g3]
            unfold brkz
            by_cases j2 : j = (30 + z).toNat
            · subst j2
              rw [if_pos rfl, if_neg (by omega), if_pos (by omega)]
            · rw [if_neg j2]
              by_cases j1 : j = 21
              · rw [if_pos j1, if_pos j1]
              · rw [if_neg j1, if_neg j1]
                by_cases j3 : 30 ≤ (j : Int) ∧ (j : Int) < 30 + z ∧ a j = k + 1
                · rw [if_pos j3, if_pos (by omega)]
                · rw [if_neg j3, if_neg (by omega)]
        · funext j
          rw [mu_at, ha]
          unfold brkz
          by_cases j1 : j = 21
          · rw [if_pos j1, if_pos j1]
          · rw [if_neg j1, if_neg j1, if_neg (by omega)]
  refine e_X12_breaks (Nat.le_of_ble_eq_true rfl) ?_
  simp only [wp_c, st_iload, st_lload, st_aload, st_istore, st_lstore, st_astore, st_iinc, st_sipush, st_jsr_w, st_goto, st_jsr, st_goto_w, st_if_icmp, st_ifCond, st_iadd, st_isub, st_imul, st_idiv, st_irem, st_iand, st_ior, st_ixor, st_ishl, st_ishr, st_iushr, st_ladd, st_lsub, st_lmul, st_ldiv, st_lrem, st_land, st_lor, st_lshl, st_lshr, st_i2l, st_l2i, st_i2b, st_i2s, st_i2c, st_lcmp, st_dup, st_pop, st_dup2, st_pop2, st_getfield, st_getstatic, st_checkcast, st_instanceof, st_putfield, st_putstatic, st_dstore, st_iaload, st_baload, st_laload, st_aaload, st_iastore, st_bastore, st_lastore, st_arraylength, st_dcmpg, st_dcmpl, st_fcmpg, st_fcmpl, st_monitorenter, st_tableswitch, st_multianewarray, st_invokeinterface, st_ireturn, st_lreturn, st_return_, st_ldc, st_ldc_w, st_ldc2_w, st_freturn, st_invokevirtual, st_anewarray0, st_anewarray1, st_anewarray2, st_anewarray3, st_anewarray4, st_anewarray5, st_lookupswitch, popI_c, popL_c, popR_c, popV_c, getI_c, getL_c, getR_c, lg_z, lg_s, ls1_z, ls1_o, ls1_s, ls2_z, ls2_o, ls2_s, noL_i, noL_l, noL_r, isL_i, isL_l, isL_r, tk_z, tk_s, psh_n, psh_s, ent_e, entL_n, entL_c, cc_eq, cc_ne, cc_lt, cc_ge, cc_gt, cc_le, swt_n, swt_c, lsw_n, lsw_c, mPs, NSTR_e, akds, alens, cnts, arfs, inb_e, lcm_lt, lcm_gt, lcm_ge, lcm_le, lcm_eq, lcm_a, lcm_b, Int.reduceToNat, Nat.reduceDiv, Nat.reduceMod, Nat.reduceMul, Nat.reduceAdd, Nat.reduceSub, Nat.reduceLT, Nat.reduceLeDiff, Nat.reduceEqDiff, Int.reduceNeg, Int.reduceAdd, Nat.one_mul, Nat.zero_mul, Nat.add_zero, Nat.zero_add, if_true, if_false, eq_self, true_and, and_true, true_or, or_true, false_or, or_false, List.length_cons, List.length_nil, List.cons_append, List.nil_append, List.replicate_zero, List.replicate_succ, Nat.lt_irrefl, reduceCtorEq, Bool.false_eq_true, in32, in64, Int.reduceLE, Int.reduceLT, Int.reduceEq, Int.reduceNe, not_true_eq_false, not_false_eq_true, true_implies, false_implies, implies_true, false_and, and_false, and_self, b_X12_breaks, r_X12_breaks]
  refine q_laysNow ho hl (fun σ3 f1 f2 => ?_)
  rw [hlw] at f2
  have e44 : σ3 44 = σ 44 := f1 44 (by decide)
  have ho3 : OkA (σ3 44 0) := by rw [e44]; exact ho
  simp only [wp_c, st_iload, st_lload, st_aload, st_istore, st_lstore, st_astore, st_iinc, st_sipush, st_jsr_w, st_goto, st_jsr, st_goto_w, st_if_icmp, st_ifCond, st_iadd, st_isub, st_imul, st_idiv, st_irem, st_iand, st_ior, st_ixor, st_ishl, st_ishr, st_iushr, st_ladd, st_lsub, st_lmul, st_ldiv, st_lrem, st_land, st_lor, st_lshl, st_lshr, st_i2l, st_l2i, st_i2b, st_i2s, st_i2c, st_lcmp, st_dup, st_pop, st_dup2, st_pop2, st_getfield, st_getstatic, st_checkcast, st_instanceof, st_putfield, st_putstatic, st_dstore, st_iaload, st_baload, st_laload, st_aaload, st_iastore, st_bastore, st_lastore, st_arraylength, st_dcmpg, st_dcmpl, st_fcmpg, st_fcmpl, st_monitorenter, st_tableswitch, st_multianewarray, st_invokeinterface, st_ireturn, st_lreturn, st_return_, st_ldc, st_ldc_w, st_ldc2_w, st_freturn, st_invokevirtual, st_anewarray0, st_anewarray1, st_anewarray2, st_anewarray3, st_anewarray4, st_anewarray5, st_lookupswitch, popI_c, popL_c, popR_c, popV_c, getI_c, getL_c, getR_c, lg_z, lg_s, ls1_z, ls1_o, ls1_s, ls2_z, ls2_o, ls2_s, noL_i, noL_l, noL_r, isL_i, isL_l, isL_r, tk_z, tk_s, psh_n, psh_s, ent_e, entL_n, entL_c, cc_eq, cc_ne, cc_lt, cc_ge, cc_gt, cc_le, swt_n, swt_c, lsw_n, lsw_c, mPs, NSTR_e, akds, alens, cnts, arfs, inb_e, lcm_lt, lcm_gt, lcm_ge, lcm_le, lcm_eq, lcm_a, lcm_b, Int.reduceToNat, Nat.reduceDiv, Nat.reduceMod, Nat.reduceMul, Nat.reduceAdd, Nat.reduceSub, Nat.reduceLT, Nat.reduceLeDiff, Nat.reduceEqDiff, Int.reduceNeg, Int.reduceAdd, Nat.one_mul, Nat.zero_mul, Nat.add_zero, Nat.zero_add, if_true, if_false, eq_self, true_and, and_true, true_or, or_true, false_or, or_false, List.length_cons, List.length_nil, List.cons_append, List.nil_append, List.replicate_zero, List.replicate_succ, Nat.lt_irrefl, reduceCtorEq, Bool.false_eq_true, in32, in64, Int.reduceLE, Int.reduceLT, Int.reduceEq, Int.reduceNe, not_true_eq_false, not_false_eq_true, true_implies, false_implies, implies_true, false_and, and_false, and_self, b_X12_breaks, r_X12_breaks]
  refine q_firstOver (L := lie (σ3 44 0) lw) ho3 (fun k a b => by rw [e44]; exact f2 k a b) (fun k _ _ => by have := lie_le ho3 (lw := lw) (k := k); omega) ?_
  simp only [wp_c, st_iload, st_lload, st_aload, st_istore, st_lstore, st_astore, st_iinc, st_sipush, st_jsr_w, st_goto, st_jsr, st_goto_w, st_if_icmp, st_ifCond, st_iadd, st_isub, st_imul, st_idiv, st_irem, st_iand, st_ior, st_ixor, st_ishl, st_ishr, st_iushr, st_ladd, st_lsub, st_lmul, st_ldiv, st_lrem, st_land, st_lor, st_lshl, st_lshr, st_i2l, st_l2i, st_i2b, st_i2s, st_i2c, st_lcmp, st_dup, st_pop, st_dup2, st_pop2, st_getfield, st_getstatic, st_checkcast, st_instanceof, st_putfield, st_putstatic, st_dstore, st_iaload, st_baload, st_laload, st_aaload, st_iastore, st_bastore, st_lastore, st_arraylength, st_dcmpg, st_dcmpl, st_fcmpg, st_fcmpl, st_monitorenter, st_tableswitch, st_multianewarray, st_invokeinterface, st_ireturn, st_lreturn, st_return_, st_ldc, st_ldc_w, st_ldc2_w, st_freturn, st_invokevirtual, st_anewarray0, st_anewarray1, st_anewarray2, st_anewarray3, st_anewarray4, st_anewarray5, st_lookupswitch, popI_c, popL_c, popR_c, popV_c, getI_c, getL_c, getR_c, lg_z, lg_s, ls1_z, ls1_o, ls1_s, ls2_z, ls2_o, ls2_s, noL_i, noL_l, noL_r, isL_i, isL_l, isL_r, tk_z, tk_s, psh_n, psh_s, ent_e, entL_n, entL_c, cc_eq, cc_ne, cc_lt, cc_ge, cc_gt, cc_le, swt_n, swt_c, lsw_n, lsw_c, mPs, NSTR_e, akds, alens, cnts, arfs, inb_e, lcm_lt, lcm_gt, lcm_ge, lcm_le, lcm_eq, lcm_a, lcm_b, Int.reduceToNat, Nat.reduceDiv, Nat.reduceMod, Nat.reduceMul, Nat.reduceAdd, Nat.reduceSub, Nat.reduceLT, Nat.reduceLeDiff, Nat.reduceEqDiff, Int.reduceNeg, Int.reduceAdd, Nat.one_mul, Nat.zero_mul, Nat.add_zero, Nat.zero_add, if_true, if_false, eq_self, true_and, and_true, true_or, or_true, false_or, or_false, List.length_cons, List.length_nil, List.cons_append, List.nil_append, List.replicate_zero, List.replicate_succ, Nat.lt_irrefl, reduceCtorEq, Bool.false_eq_true, in32, in64, Int.reduceLE, Int.reduceLT, Int.reduceEq, Int.reduceNe, not_true_eq_false, not_false_eq_true, true_implies, false_implies, implies_true, false_and, and_false, and_self, b_X12_breaks, r_X12_breaks]
  exact H 8 _ _ σ3 rfl (f1.wd (by decide)) ho3 (by rw [e44]; exact hl) (by rw [e44]; exact hlw) (nub_le ho3).2 rfl (by rw [e44]; exact hT)
end BREAKS
