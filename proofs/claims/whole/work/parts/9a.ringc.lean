/-! 9a: rings: the class -/
/-- the least of the debts along the path, and 99 -/
def lsI (a : BV) (f : Int → Int) (m l : Int) : Prop := (0 ≤ l ∧ l ≤ 99) ∧ (∀ i : Int, 0 ≤ i → i + 1 < m → l ≤ dz a (f i) (f (i + 1))) ∧ (l = 99 ∨ ∃ i : Int, 0 ≤ i ∧ i + 1 < m ∧ l = dz a (f i) (f (i + 1)))
theorem imin_s {x y : Int} : (imin x y ≤ x ∧ imin x y ≤ y) ∧ (imin x y = x ∨ imin x y = y) := by
  unfold imin
  split <;> omega
theorem lsI_s {a : BV} {f : Int → Int} {m l q : Int} (ho : OkA a) (hm : 1 ≤ m) (hp : ∀ k : Int, 0 ≤ k → k < m → 0 ≤ f k ∧ f k < 6) (hq : 0 ≤ q ∧ q < 6) (h : lsI a f m l) : lsI a (fu f m q) (m + 1) (imin l (dz a (f (m - 1)) q)) := by
  obtain ⟨h1, h2, h3⟩ := h
  have db := ho.debt (hp (m - 1) (by omega) (by omega)) hq
  obtain ⟨i1, i2⟩ := imin_s (x := l) (y := dz a (f (m - 1)) q)
  have e1 : ∀ i : Int, i + 1 < m → dz a (fu f m q i) (fu f m q (i + 1)) = dz a (f i) (f (i + 1)) := fun i hi => by
    unfold fu
    rw [if_neg (by omega), if_neg (by omega)]
  have e2 : dz a (fu f m q (m - 1)) (fu f m q (m - 1 + 1)) = dz a (f (m - 1)) q := by
    unfold fu
    rw [if_neg (by omega), if_pos (by omega)]
  refine ⟨⟨by omega, by omega⟩, fun i x y => ?_, ?_⟩
  · by_cases c : i = m - 1
    · rw [c, e2]; exact i1.2
    · rw [e1 i (by omega)]
      have := h2 i x (by omega)
      omega
  · rcases i2 with e | e
    · rw [e]
      rcases h3 with h | ⟨i, x, y, z⟩
      · exact Or.inl h
      · exact Or.inr ⟨i, x, by omega, by rw [e1 i y]; exact z⟩
    · exact Or.inr ⟨m - 1, by omega, by omega, by rw [e2]; exact e⟩
theorem lsI_c {a : BV} {f : Int → Int} {m l : Int} (ho : OkA a) (hm : 2 ≤ m ∧ m ≤ 6) (hp : ∀ k : Int, 0 ≤ k → k < m → 0 ≤ f k ∧ f k < 6) (h : lsI a f m l) : imin l (dz a (f (m - 1)) (f 0)) = lsr a f m := by
  obtain ⟨h1, h2, h3⟩ := h
  obtain ⟨i1, i2⟩ := imin_s (x := l) (y := dz a (f (m - 1)) (f 0))
  have lb := lsr_b ho hm hp
  have sp := (lst_spec (g := rg a f m) m.toNat 0 268435456).2
  have sp : lsr a f m = 268435456 ∨ ∃ i : Int, 0 ≤ i ∧ i < 0 + (m.toNat : Int) ∧ lsr a f m = rg a f m i := sp
  have r1 : ∀ i : Int, 0 ≤ i → i + 1 < m → rg a f m i = dz a (f i) (f (i + 1)) := fun i x y => by
    unfold rg
    rw [rmod hm.1 ⟨x, by omega⟩, if_pos y]
  have r2 : rg a f m (m - 1) = dz a (f (m - 1)) (f 0) := by
    unfold rg
    rw [rmod hm.1 ⟨by omega, by omega⟩, if_neg (by omega)]
  have a1 : lsr a f m ≤ dz a (f (m - 1)) (f 0) := by
    have := lb.2.2 (m - 1) (by omega) (by omega)
    rw [r2] at this
    exact this
  have a2 : lsr a f m ≤ l := by
    rcases h3 with h | ⟨i, x, y, z⟩
    · omega
    · have := lb.2.2 i x (by omega)
      rw [r1 i x y] at this
      omega
  have a3 : imin l (dz a (f (m - 1)) (f 0)) ≤ lsr a f m := by
    rcases sp with h | ⟨i, x, y, z⟩
    · omega
    · by_cases c : i = m - 1
      · rw [z, c, r2]; exact i1.2
      · rw [z, r1 i x (by omega)]
        have := h2 i x (by omega)
        omega
  omega
def RgC (σ : Mem) (s : TS) : Prop := σ 1 0 7 = s.1 ∧ σ 1 0 5 = s.2.1 ∧ σ 1 0 6 = s.2.2.1 ∧ ∀ i : Int, 0 ≤ i → i < s.2.1 → σ 17 0 i.toNat = s.2.2.2 i
theorem full_d : ∀ s : Fin 64, pcz (s.val : Int) = 6 → ∀ q : Fin 6, (s.val : Int) / 2 ^ q.val % 2 = 1 := by decide +kernel
theorem full_s {s q : Int} (hs : 0 ≤ s ∧ s < 64) (h : pcz s = 6) (hq : 0 ≤ q ∧ q < 6) : s / 2 ^ q.toNat % 2 = 1 := by
  have g := full_d ⟨s.toNat, by omega⟩
  have e : ((s.toNat : Nat) : Int) = s := by omega
  simp only [e] at g
  exact g h ⟨q.toNat, by omega⟩
theorem gL_id {rec : Int → TS → TS} {ok : Int → Bool} : ∀ (c : Nat) (p : Int) (s : TS), (∀ i : Int, p ≤ i → i < p + c → ok i = false) → gL rec ok c p s = s := by
  intro c
  induction c with
  | zero => intro p s _; rfl
  | succ c ih =>
    intro p s h
    unfold gL
    rw [h p (by omega) (by omega)]
    exact ih (p + 1) s (fun i x y => h i (by omega) (by omega))
section RINGC
variable {d : Nat} {a b : BV} {lw ll : List Int}
set_option maxRecDepth 4000 in
theorem c_close {σ : Mem} {K : Option AV → Mem → Prop} {m : Int} {f : Int → Int} {s : TS} (ho : OkA a) (hm : 2 ≤ m ∧ m ≤ 6) (hf : ∀ k : Int, 0 ≤ k → k < m → σ 16 0 k.toNat = f k) (hp : ∀ k : Int, 0 ≤ k → k < m → 0 ≤ f k ∧ f k < 6) (hs : tsB s) (hs2 : s.1 < 2147483647) (hr : RgC σ s) (hK : ∀ σ', eqx [1, 17] σ σ' → RgC σ' (lay a f m s) → K none σ') : Ev (d + 1) 19 [.inr (.inr (some (1, 0))), .inl m, .inl (lsr a f m)] σ K := by
  obtain ⟨s1, s2, s3, s4⟩ := s
  obtain ⟨r1, r2, r3, r4⟩ := hr
  have r1 : σ 1 0 7 = s1 := r1
  have r2 : σ 1 0 5 = s2 := r2
  have r3 : σ 1 0 6 = s3 := r3
  have r4 : ∀ i : Int, 0 ≤ i → i < s2 → σ 17 0 i.toNat = s4 i := r4
  have hs : 0 ≤ s1 ∧ (0 ≤ s2 ∧ s2 ≤ 6) ∧ 0 ≤ s3 ∧ s3 ≤ 594 := hs
  have hs2 : s1 < 2147483647 := hs2
  have lm := lsr_m ho hm hp
  have lb := lsr_b ho hm hp
  generalize hτ : mu σ 1 0 7 (s1 + 1) = τ
  have xτ : eqx [1, 17] σ τ := by rw [← hτ]; exact eqx_mu eqx.rf (by decide)
  have t7 : τ 1 0 7 = s1 + 1 := by rw [← hτ, mu_at, if_pos rfl]
  have t5 : τ 1 0 5 = s2 := by rw [← hτ, mu_at, if_neg (by decide)]; exact r2
  have t6 : τ 1 0 6 = s3 := by rw [← hτ, mu_at, if_neg (by decide)]; exact r3
  have t16 : ∀ k : Int, 0 ≤ k → k < m → τ 16 0 k.toNat = f k := fun k x y => by rw [xτ 16 (by decide)]; exact hf k x y
  have t17 : τ 17 = σ 17 := by rw [← hτ, mu_k (by decide)]
  generalize hx : lsr a f m * m = x at lm
  by_cases c : s3 < x
  · have fin : ∀ σ', eqx [1, 17] σ σ' → σ' 1 0 7 = s1 + 1 → σ' 1 0 5 = m → σ' 1 0 6 = x → (∀ i : Int, 0 ≤ i → i < m → σ' 17 0 i.toNat = f i) → K none σ' := fun σ' y1 y4 y5 y6 y7 => by
      refine hK σ' y1 ?_
      unfold RgC lay
      simp only [hx, if_pos c]
      exact ⟨y4, y5, y6, y7⟩
    refine e_X1_close (Nat.le_of_ble_eq_true rfl) ?_
    simp only [wp_c, st_iload, st_lload, st_aload, st_istore, st_lstore, st_astore, st_iinc, st_sipush, st_jsr_w, st_goto, st_jsr, st_goto_w, st_if_icmp, st_ifCond, st_iadd, st_isub, st_imul, st_idiv, st_irem, st_iand, st_ior, st_ixor, st_ishl, st_ishr, st_iushr, st_ladd, st_lsub, st_lmul, st_ldiv, st_lrem, st_land, st_lor, st_lshl, st_lshr, st_i2l, st_l2i, st_i2b, st_i2s, st_i2c, st_lcmp, st_dup, st_pop, st_dup2, st_pop2, st_getfield, st_getstatic, st_checkcast, st_instanceof, st_putfield, st_putstatic, st_dstore, st_iaload, st_baload, st_laload, st_aaload, st_iastore, st_bastore, st_lastore, st_arraylength, st_dcmpg, st_dcmpl, st_fcmpg, st_fcmpl, st_monitorenter, st_tableswitch, st_multianewarray, st_invokeinterface, st_ireturn, st_lreturn, st_return_, st_ldc, st_ldc_w, st_ldc2_w, st_freturn, st_invokevirtual, st_anewarray0, st_anewarray1, st_anewarray2, st_anewarray3, st_anewarray4, st_anewarray5, st_lookupswitch, popI_c, popL_c, popR_c, popV_c, getI_c, getL_c, getR_c, lg_z, lg_s, ls1_z, ls1_o, ls1_s, ls2_z, ls2_o, ls2_s, noL_i, noL_l, noL_r, isL_i, isL_l, isL_r, tk_z, tk_s, psh_n, psh_s, ent_e, entL_n, entL_c, cc_eq, cc_ne, cc_lt, cc_ge, cc_gt, cc_le, swt_n, swt_c, lsw_n, lsw_c, mPs, NSTR_e, akds, alens, cnts, arfs, inb_e, lcm_lt, lcm_gt, lcm_ge, lcm_le, lcm_eq, lcm_a, lcm_b, Int.reduceToNat, Nat.reduceDiv, Nat.reduceMod, Nat.reduceMul, Nat.reduceAdd, Nat.reduceSub, Nat.reduceLT, Nat.reduceLeDiff, Nat.reduceEqDiff, Int.reduceNeg, Int.reduceAdd, Nat.one_mul, Nat.zero_mul, Nat.add_zero, Nat.zero_add, if_true, if_false, eq_self, true_and, and_true, true_or, or_true, false_or, or_false, List.length_cons, List.length_nil, List.cons_append, List.nil_append, List.replicate_zero, List.replicate_succ, Nat.lt_irrefl, reduceCtorEq, Bool.false_eq_true, in32, in64, Int.reduceLE, Int.reduceLT, Int.reduceEq, Int.reduceNe, not_true_eq_false, not_false_eq_true, true_implies, false_implies, implies_true, false_and, and_false, and_self, b_X1_close, r_X1_close, r1, hτ, t6, hx]
    (repeat' with_reducible first | apply And.intro | intro _)
    all_goals try omega
    have g : ∀ k : Nat, mcp (mu (mu τ 1 0 6 x) 1 0 5 m) 16 0 17 0 0 0 6 1 0 k = if k = 5 then m else if k = 6 then x else τ 1 0 k := fun k => by
      unfold mcp
      rw [if_neg (by omega), mu_at, mu_at]
    refine fin _ (eqx_mcp (eqx_mu (eqx_mu xτ (by decide)) (by decide)) (by decide)) (by rw [g, if_neg (by decide), if_neg (by decide)]; exact t7) (by rw [g, if_pos rfl]) (by rw [g, if_neg (by decide), if_pos rfl]) (fun i y z => ?_)
    have ei : i.toNat < 6 := by omega
    have e16 : mu (mu τ 1 0 6 x) 1 0 5 m 16 = τ 16 := by rw [mu_k (by decide), mu_k (by decide)]
    have : mcp (mu (mu τ 1 0 6 x) 1 0 5 m) 16 0 17 0 0 0 6 17 0 i.toNat = mu (mu τ 1 0 6 x) 1 0 5 m 16 0 i.toNat := by simp [mcp, ei]
    rw [this, e16]
    exact t16 i y z
  · have := hK τ xτ (by
      unfold RgC lay
      simp only [hx, if_neg c]
      exact ⟨t7, t5, t6, fun i x y => by rw [t17]; exact r4 i x y⟩)
    refine e_X1_close (Nat.le_of_ble_eq_true rfl) ?_
    simp only [wp_c, st_iload, st_lload, st_aload, st_istore, st_lstore, st_astore, st_iinc, st_sipush, st_jsr_w, st_goto, st_jsr, st_goto_w, st_if_icmp, st_ifCond, st_iadd, st_isub, st_imul, st_idiv, st_irem, st_iand, st_ior, st_ixor, st_ishl, st_ishr, st_iushr, st_ladd, st_lsub, st_lmul, st_ldiv, st_lrem, st_land, st_lor, st_lshl, st_lshr, st_i2l, st_l2i, st_i2b, st_i2s, st_i2c, st_lcmp, st_dup, st_pop, st_dup2, st_pop2, st_getfield, st_getstatic, st_checkcast, st_instanceof, st_putfield, st_putstatic, st_dstore, st_iaload, st_baload, st_laload, st_aaload, st_iastore, st_bastore, st_lastore, st_arraylength, st_dcmpg, st_dcmpl, st_fcmpg, st_fcmpl, st_monitorenter, st_tableswitch, st_multianewarray, st_invokeinterface, st_ireturn, st_lreturn, st_return_, st_ldc, st_ldc_w, st_ldc2_w, st_freturn, st_invokevirtual, st_anewarray0, st_anewarray1, st_anewarray2, st_anewarray3, st_anewarray4, st_anewarray5, st_lookupswitch, popI_c, popL_c, popR_c, popV_c, getI_c, getL_c, getR_c, lg_z, lg_s, ls1_z, ls1_o, ls1_s, ls2_z, ls2_o, ls2_s, noL_i, noL_l, noL_r, isL_i, isL_l, isL_r, tk_z, tk_s, psh_n, psh_s, ent_e, entL_n, entL_c, cc_eq, cc_ne, cc_lt, cc_ge, cc_gt, cc_le, swt_n, swt_c, lsw_n, lsw_c, mPs, NSTR_e, akds, alens, cnts, arfs, inb_e, lcm_lt, lcm_gt, lcm_ge, lcm_le, lcm_eq, lcm_a, lcm_b, Int.reduceToNat, Nat.reduceDiv, Nat.reduceMod, Nat.reduceMul, Nat.reduceAdd, Nat.reduceSub, Nat.reduceLT, Nat.reduceLeDiff, Nat.reduceEqDiff, Int.reduceNeg, Int.reduceAdd, Nat.one_mul, Nat.zero_mul, Nat.add_zero, Nat.zero_add, if_true, if_false, eq_self, true_and, and_true, true_or, or_true, false_or, or_false, List.length_cons, List.length_nil, List.cons_append, List.nil_append, List.replicate_zero, List.replicate_succ, Nat.lt_irrefl, reduceCtorEq, Bool.false_eq_true, in32, in64, Int.reduceLE, Int.reduceLT, Int.reduceEq, Int.reduceNe, not_true_eq_false, not_false_eq_true, true_implies, false_implies, implies_true, false_and, and_false, and_self, b_X1_close, r_X1_close, r1, hτ, t6, hx]
    (repeat' with_reducible first | apply And.intro | intro _)
    all_goals try omega
    all_goals exact this
set_option maxRecDepth 4000 in
theorem c_follow : ∀ (n : Nat) (m : Int) (f : Int → Int) (used l : Int) (s : TS) (σ : Mem) (K : Option AV → Mem → Prop), WI σ 0 b lw ll → V σ 0 b = a → 1 ≤ m → m + n = 7 → m ≤ 6 → (0 ≤ used ∧ used < 64) → pcz used = m → lsI a f m l → (∀ i : Int, 0 ≤ i → i < m → σ 16 0 i.toNat = f i) → (∀ i : Int, 0 ≤ i → i < m → 0 ≤ f i ∧ f i < 6) → tsB s → s.1 + 7 ^ n ≤ 2147483647 → RgC σ s → (∀ σ', eqx [1, 16, 17] σ σ' → (∀ i : Int, 0 ≤ i → i < m → σ' 16 0 i.toNat = f i) → RgC σ' (gG a n m f used s) → K none σ') → Ev (d + n + 2) 18 [.inr (.inr (some (1, 0))), .inl m, .inl used, .inl l] σ K := by
  intro n
  induction n with
  | zero =>
    intro m f used l s σ K hi hv h1 h2 h3
    omega
  | succ n ih =>
    intro m f used l s σ K hi hv h1 h2 h3 hu hpu hl h16 hp hs hs2 hr hK
    rw [show d + (n + 1) + 2 = (d + n + 2) + 1 by omega]
    have ho : OkA a := hv ▸ hi.2.2.1
    have hP := ho.P
    have b1 := p7 n
    have b2 : (7 : Int) ^ (n + 1) = 7 ^ n * 7 := Int.pow_succ _ _
    have pf := hp 0 (by decide) (by omega)
    have pl := hp (m - 1) (by omega) (by omega)
    have e0 : σ 16 0 0 = f 0 := h16 0 (by decide) (by omega)
    have el := h16 (m - 1) (by omega) (by omega)
    have db := ho.debt pl pf
    have hl0 := hl.1
    unfold gG at hK
    generalize hr' : (fun (q : Int) (s : TS) => gG a n (m + 1) (fu f m q) (used + 2 ^ q.toNat) s) = rec at hK
    have hrr : ∀ q s, rec q s = gG a n (m + 1) (fu f m q) (used + 2 ^ q.toNat) s := fun q s => by rw [← hr']
    have cb := clz_b ho ⟨h1, h3⟩ hp hs
    generalize hS0 : clz a f m s = S0 at hK cb
    have P0 : ∀ σc : Mem, eqx [1, 16, 17] σ σc → (σc 10 0 3).toNat = pln σ 0 ∧ σc 3 (pln σ 0) 6 = a 2 ∧ pln σ 0 < (σc 60 0 0).toNat := fun σc xc => by
      rw [xc 10 (by decide), xc 3 (by decide), xc 60 (by decide)]
      exact ⟨rfl, by rw [← hv]; rfl, hi.2.1⟩
    have H : ∀ (q : Nat) (p : Int) (x7 : AV) (sc : TS) (σc : Mem), isL x7 = false → 0 ≤ p ∧ p ≤ 6 → p + q = a 2 ∨ (q = 0 ∧ a 2 ≤ p) → gL rec (gok a f m used) q p sc = gL rec (gok a f m used) (a 2 - (f 0 + 1)).toNat (f 0 + 1) S0 → eqx [1, 16, 17] σ σc → (∀ i : Int, 0 ≤ i → i < m → σc 16 0 i.toNat = f i) → tsB sc → sc.1 + (q : Int) * 7 ^ n ≤ 2147483647 → RgC σc sc → Rn (d + n + 2 + 1) 18 53 [.inr (.inr (some (1, 0))), .inl m, .inl used, .inl l, .inl (f (m - 1)), .inl (dz a (f (m - 1)) (f 0)), .inl p, x7] [] σc K := by
      intro q
      induction q with
      | zero =>
        intro p x7 sc σc hx q1 q2 hh xc c16 cs cs2 cr
        have hh : sc = _ := hh
        rw [← hh] at hK
        obtain ⟨z1, z2, z3⟩ := P0 σc xc
        have := hK σc xc c16 cr
        refine l_X1_follow_53 ?_
        simp only [wp_c, st_iload, st_lload, st_aload, st_istore, st_lstore, st_astore, st_iinc, st_sipush, st_jsr_w, st_goto, st_jsr, st_goto_w, st_if_icmp, st_ifCond, st_iadd, st_isub, st_imul, st_idiv, st_irem, st_iand, st_ior, st_ixor, st_ishl, st_ishr, st_iushr, st_ladd, st_lsub, st_lmul, st_ldiv, st_lrem, st_land, st_lor, st_lshl, st_lshr, st_i2l, st_l2i, st_i2b, st_i2s, st_i2c, st_lcmp, st_dup, st_pop, st_dup2, st_pop2, st_getfield, st_getstatic, st_checkcast, st_instanceof, st_putfield, st_putstatic, st_dstore, st_iaload, st_baload, st_laload, st_aaload, st_iastore, st_bastore, st_lastore, st_arraylength, st_dcmpg, st_dcmpl, st_fcmpg, st_fcmpl, st_monitorenter, st_tableswitch, st_multianewarray, st_invokeinterface, st_ireturn, st_lreturn, st_return_, st_ldc, st_ldc_w, st_ldc2_w, st_freturn, st_invokevirtual, st_anewarray0, st_anewarray1, st_anewarray2, st_anewarray3, st_anewarray4, st_anewarray5, st_lookupswitch, popI_c, popL_c, popR_c, popV_c, getI_c, getL_c, getR_c, lg_z, lg_s, ls1_z, ls1_o, ls1_s, ls2_z, ls2_o, ls2_s, noL_i, noL_l, noL_r, isL_i, isL_l, isL_r, tk_z, tk_s, psh_n, psh_s, ent_e, entL_n, entL_c, cc_eq, cc_ne, cc_lt, cc_ge, cc_gt, cc_le, swt_n, swt_c, lsw_n, lsw_c, mPs, NSTR_e, akds, alens, cnts, arfs, inb_e, lcm_lt, lcm_gt, lcm_ge, lcm_le, lcm_eq, lcm_a, lcm_b, Int.reduceToNat, Nat.reduceDiv, Nat.reduceMod, Nat.reduceMul, Nat.reduceAdd, Nat.reduceSub, Nat.reduceLT, Nat.reduceLeDiff, Nat.reduceEqDiff, Int.reduceNeg, Int.reduceAdd, Nat.one_mul, Nat.zero_mul, Nat.add_zero, Nat.zero_add, if_true, if_false, eq_self, true_and, and_true, true_or, or_true, false_or, or_false, List.length_cons, List.length_nil, List.cons_append, List.nil_append, List.replicate_zero, List.replicate_succ, Nat.lt_irrefl, reduceCtorEq, Bool.false_eq_true, in32, in64, Int.reduceLE, Int.reduceLT, Int.reduceEq, Int.reduceNe, not_true_eq_false, not_false_eq_true, true_implies, false_implies, implies_true, false_and, and_false, and_self, b_X1_follow, r_X1_follow, h_X1_follow_53, z1, z2]
        (repeat' with_reducible first | apply And.intro | intro _)
        all_goals try omega
        all_goals exact this
      | succ q ih2 =>
        intro p x7 sc σc hx q1 q2 hh xc c16 cs cs2 cr
        obtain ⟨z1, z2, z3⟩ := P0 σc xc
        by_cases c6 : m = 6
        · have idn := gL_id (rec := rec) (ok := gok a f m used) (q + 1) p sc (fun i x y => decide_eq_false (fun z => by
            have := full_s hu (by omega) (q := i) ⟨by omega, by omega⟩
            omega))
          rw [idn] at hh
          rw [← hh] at hK
          have := hK σc xc c16 cr
          refine l_X1_follow_53 ?_
          simp only [wp_c, st_iload, st_lload, st_aload, st_istore, st_lstore, st_astore, st_iinc, st_sipush, st_jsr_w, st_goto, st_jsr, st_goto_w, st_if_icmp, st_ifCond, st_iadd, st_isub, st_imul, st_idiv, st_irem, st_iand, st_ior, st_ixor, st_ishl, st_ishr, st_iushr, st_ladd, st_lsub, st_lmul, st_ldiv, st_lrem, st_land, st_lor, st_lshl, st_lshr, st_i2l, st_l2i, st_i2b, st_i2s, st_i2c, st_lcmp, st_dup, st_pop, st_dup2, st_pop2, st_getfield, st_getstatic, st_checkcast, st_instanceof, st_putfield, st_putstatic, st_dstore, st_iaload, st_baload, st_laload, st_aaload, st_iastore, st_bastore, st_lastore, st_arraylength, st_dcmpg, st_dcmpl, st_fcmpg, st_fcmpl, st_monitorenter, st_tableswitch, st_multianewarray, st_invokeinterface, st_ireturn, st_lreturn, st_return_, st_ldc, st_ldc_w, st_ldc2_w, st_freturn, st_invokevirtual, st_anewarray0, st_anewarray1, st_anewarray2, st_anewarray3, st_anewarray4, st_anewarray5, st_lookupswitch, popI_c, popL_c, popR_c, popV_c, getI_c, getL_c, getR_c, lg_z, lg_s, ls1_z, ls1_o, ls1_s, ls2_z, ls2_o, ls2_s, noL_i, noL_l, noL_r, isL_i, isL_l, isL_r, tk_z, tk_s, psh_n, psh_s, ent_e, entL_n, entL_c, cc_eq, cc_ne, cc_lt, cc_ge, cc_gt, cc_le, swt_n, swt_c, lsw_n, lsw_c, mPs, NSTR_e, akds, alens, cnts, arfs, inb_e, lcm_lt, lcm_gt, lcm_ge, lcm_le, lcm_eq, lcm_a, lcm_b, Int.reduceToNat, Nat.reduceDiv, Nat.reduceMod, Nat.reduceMul, Nat.reduceAdd, Nat.reduceSub, Nat.reduceLT, Nat.reduceLeDiff, Nat.reduceEqDiff, Int.reduceNeg, Int.reduceAdd, Nat.one_mul, Nat.zero_mul, Nat.add_zero, Nat.zero_add, if_true, if_false, eq_self, true_and, and_true, true_or, or_true, false_or, or_false, List.length_cons, List.length_nil, List.cons_append, List.nil_append, List.replicate_zero, List.replicate_succ, Nat.lt_irrefl, reduceCtorEq, Bool.false_eq_true, in32, in64, Int.reduceLE, Int.reduceLT, Int.reduceEq, Int.reduceNe, not_true_eq_false, not_false_eq_true, true_implies, false_implies, implies_true, false_and, and_false, and_self, b_X1_follow, r_X1_follow, h_X1_follow_53, z1, z2]
          (repeat' with_reducible first | apply And.intro | intro _)
          all_goals try omega
          all_goals exact this
        · have hh : gL rec (gok a f m used) q (p + 1) (if gok a f m used p = true then rec p sc else sc) = _ := hh
          have ic : WI σc 0 b lw ll := WI_x xc (by decide) (by decide) hi
          have vc : V σc 0 b = a := (V_x xc (by decide) 0 b).trans hv
          have eq : ((q + 1 : Nat) : Int) * 7 ^ n = (q : Int) * 7 ^ n + 7 ^ n := by rw [Int.natCast_succ, Int.add_mul, Int.one_mul]
          have qn : 0 ≤ (q : Int) * 7 ^ n := Int.mul_nonneg (by omega) (by omega)
          rw [eq] at cs2
          have dq := ho.debt pl (q := p) ⟨q1.1, by omega⟩
          have skip : ¬ (used / 2 ^ p.toNat % 2 = 0 ∧ 0 < dz a (f (m - 1)) p) → Rn (d + n + 2 + 1) 18 53 [.inr (.inr (some (1, 0))), .inl m, .inl used, .inl l, .inl (f (m - 1)), .inl (dz a (f (m - 1)) (f 0)), .inl (p + 1), .inl (dz a (f (m - 1)) p)] [] σc K := fun x => by
            have g : ¬ gok a f m used p = true := fun y => x (of_decide_eq_true y)
            rw [if_neg g] at hh
            exact ih2 (p + 1) _ sc σc rfl (by omega) (by omega) hh xc c16 cs (by omega) cr
          have ep : ((p.toNat : Nat) : Int) = p := by omega
          have s1 : ishr used p = used / 2 ^ p.toNat := by
            have := ishr_n (a := used) (k := p.toNat) ⟨by omega, by omega⟩ (by omega)
            rw [ep] at this
            exact this
          have g0 : 0 ≤ used / 2 ^ p.toNat := Int.ediv_nonneg hu.1 (Int.le_of_lt (Int.pow_pos (by decide)))
          have g1 : used / 2 ^ p.toNat ≤ used := Int.ediv_le_self _ hu.1
          have s2 : iand (used / 2 ^ p.toNat) 1 = used / 2 ^ p.toNat % 2 := iand_1 ⟨by omega, by omega⟩
          refine l_X1_follow_53 ?_
          simp only [wp_c, st_iload, st_lload, st_aload, st_istore, st_lstore, st_astore, st_iinc, st_sipush, st_jsr_w, st_goto, st_jsr, st_goto_w, st_if_icmp, st_ifCond, st_iadd, st_isub, st_imul, st_idiv, st_irem, st_iand, st_ior, st_ixor, st_ishl, st_ishr, st_iushr, st_ladd, st_lsub, st_lmul, st_ldiv, st_lrem, st_land, st_lor, st_lshl, st_lshr, st_i2l, st_l2i, st_i2b, st_i2s, st_i2c, st_lcmp, st_dup, st_pop, st_dup2, st_pop2, st_getfield, st_getstatic, st_checkcast, st_instanceof, st_putfield, st_putstatic, st_dstore, st_iaload, st_baload, st_laload, st_aaload, st_iastore, st_bastore, st_lastore, st_arraylength, st_dcmpg, st_dcmpl, st_fcmpg, st_fcmpl, st_monitorenter, st_tableswitch, st_multianewarray, st_invokeinterface, st_ireturn, st_lreturn, st_return_, st_ldc, st_ldc_w, st_ldc2_w, st_freturn, st_invokevirtual, st_anewarray0, st_anewarray1, st_anewarray2, st_anewarray3, st_anewarray4, st_anewarray5, st_lookupswitch, popI_c, popL_c, popR_c, popV_c, getI_c, getL_c, getR_c, lg_z, lg_s, ls1_z, ls1_o, ls1_s, ls2_z, ls2_o, ls2_s, noL_i, noL_l, noL_r, isL_i, isL_l, isL_r, tk_z, tk_s, psh_n, psh_s, ent_e, entL_n, entL_c, cc_eq, cc_ne, cc_lt, cc_ge, cc_gt, cc_le, swt_n, swt_c, lsw_n, lsw_c, mPs, NSTR_e, akds, alens, cnts, arfs, inb_e, lcm_lt, lcm_gt, lcm_ge, lcm_le, lcm_eq, lcm_a, lcm_b, Int.reduceToNat, Nat.reduceDiv, Nat.reduceMod, Nat.reduceMul, Nat.reduceAdd, Nat.reduceSub, Nat.reduceLT, Nat.reduceLeDiff, Nat.reduceEqDiff, Int.reduceNeg, Int.reduceAdd, Nat.one_mul, Nat.zero_mul, Nat.add_zero, Nat.zero_add, if_true, if_false, eq_self, true_and, and_true, true_or, or_true, false_or, or_false, List.length_cons, List.length_nil, List.cons_append, List.nil_append, List.replicate_zero, List.replicate_succ, Nat.lt_irrefl, reduceCtorEq, Bool.false_eq_true, in32, in64, Int.reduceLE, Int.reduceLT, Int.reduceEq, Int.reduceNe, not_true_eq_false, not_false_eq_true, true_implies, false_implies, implies_true, false_and, and_false, and_self, b_X1_follow, r_X1_follow, h_X1_follow_53, z1, z2]
          (repeat' with_reducible first | apply And.intro | intro _)
          all_goals try omega
          refine c_ow pl ⟨by omega, by omega⟩ ic ?_
          rw [vc]
          by_cases ok : used / 2 ^ p.toNat % 2 = 0 ∧ 0 < dz a (f (m - 1)) p
          · have okk : gok a f m used p = true := decide_eq_true ok
            rw [if_pos okk, hrr] at hh
            obtain ⟨u1, u2, u3⟩ := push_s hu ⟨q1.1, by omega⟩ ok.1
            have p6' := pcz_6 u1
            have hsh := ishl_z (z := p) ⟨q1.1, by omega⟩
            have fp := fu_p (m := m) (q := p) ⟨q1.1, by omega⟩ hp
            have gb := gG_b ho n (m + 1) (fu f m p) (used + 2 ^ p.toNat) sc (by omega) (by omega) fp cs
            have xm : eqx [1, 16, 17] σ (mu σc 16 0 m.toNat p) := eqx_mu xc (by decide)
            simp only [wp_c, st_iload, st_lload, st_aload, st_istore, st_lstore, st_astore, st_iinc, st_sipush, st_jsr_w, st_goto, st_jsr, st_goto_w, st_if_icmp, st_ifCond, st_iadd, st_isub, st_imul, st_idiv, st_irem, st_iand, st_ior, st_ixor, st_ishl, st_ishr, st_iushr, st_ladd, st_lsub, st_lmul, st_ldiv, st_lrem, st_land, st_lor, st_lshl, st_lshr, st_i2l, st_l2i, st_i2b, st_i2s, st_i2c, st_lcmp, st_dup, st_pop, st_dup2, st_pop2, st_getfield, st_getstatic, st_checkcast, st_instanceof, st_putfield, st_putstatic, st_dstore, st_iaload, st_baload, st_laload, st_aaload, st_iastore, st_bastore, st_lastore, st_arraylength, st_dcmpg, st_dcmpl, st_fcmpg, st_fcmpl, st_monitorenter, st_tableswitch, st_multianewarray, st_invokeinterface, st_ireturn, st_lreturn, st_return_, st_ldc, st_ldc_w, st_ldc2_w, st_freturn, st_invokevirtual, st_anewarray0, st_anewarray1, st_anewarray2, st_anewarray3, st_anewarray4, st_anewarray5, st_lookupswitch, popI_c, popL_c, popR_c, popV_c, getI_c, getL_c, getR_c, lg_z, lg_s, ls1_z, ls1_o, ls1_s, ls2_z, ls2_o, ls2_s, noL_i, noL_l, noL_r, isL_i, isL_l, isL_r, tk_z, tk_s, psh_n, psh_s, ent_e, entL_n, entL_c, cc_eq, cc_ne, cc_lt, cc_ge, cc_gt, cc_le, swt_n, swt_c, lsw_n, lsw_c, mPs, NSTR_e, akds, alens, cnts, arfs, inb_e, lcm_lt, lcm_gt, lcm_ge, lcm_le, lcm_eq, lcm_a, lcm_b, Int.reduceToNat, Nat.reduceDiv, Nat.reduceMod, Nat.reduceMul, Nat.reduceAdd, Nat.reduceSub, Nat.reduceLT, Nat.reduceLeDiff, Nat.reduceEqDiff, Int.reduceNeg, Int.reduceAdd, Nat.one_mul, Nat.zero_mul, Nat.add_zero, Nat.zero_add, if_true, if_false, eq_self, true_and, and_true, true_or, or_true, false_or, or_false, List.length_cons, List.length_nil, List.cons_append, List.nil_append, List.replicate_zero, List.replicate_succ, Nat.lt_irrefl, reduceCtorEq, Bool.false_eq_true, in32, in64, Int.reduceLE, Int.reduceLT, Int.reduceEq, Int.reduceNe, not_true_eq_false, not_false_eq_true, true_implies, false_implies, implies_true, false_and, and_false, and_self, b_X1_follow, r_X1_follow, s1, s2, hsh, u3]
            (repeat' with_reducible first | apply And.intro | intro _)
            all_goals try omega
            refine ih (m + 1) (fu f m p) (used + 2 ^ p.toNat) _ sc _ _ (WI_x xm (by decide) (by decide) hi) ((V_x xm (by decide) 0 b).trans hv) (by omega) (by omega) (by omega) u1 (by omega) (lsI_s ho h1 hp ⟨q1.1, by omega⟩ hl) (fun i a1 a2 => ?_) fp cs (by omega) ?_ (fun σ2 x2 g16 gr => ?_)
            · rw [mu_at]
              unfold fu
              by_cases ci : i = m
              · rw [if_pos (by rw [ci]), if_pos ci]
              · rw [if_neg (by omega), if_neg ci]
                exact c16 i a1 (by omega)
            · obtain ⟨z1, z2, z3, z4⟩ := cr
              exact ⟨by rw [mu_k (by decide)]; exact z1, by rw [mu_k (by decide)]; exact z2, by rw [mu_k (by decide)]; exact z3, fun i x y => by rw [mu_k (by decide)]; exact z4 i x y⟩
            · have := ih2 (p + 1) (.inl (dz a (f (m - 1)) p)) _ σ2 rfl (by omega) (by omega) hh (xm.tr x2) (fun i a1 a2 => by
                rw [g16 i a1 (by omega)]
                unfold fu
                rw [if_neg (by omega)]) gb.1 (by omega) gr
              simp only [wp_c, st_iload, st_lload, st_aload, st_istore, st_lstore, st_astore, st_iinc, st_sipush, st_jsr_w, st_goto, st_jsr, st_goto_w, st_if_icmp, st_ifCond, st_iadd, st_isub, st_imul, st_idiv, st_irem, st_iand, st_ior, st_ixor, st_ishl, st_ishr, st_iushr, st_ladd, st_lsub, st_lmul, st_ldiv, st_lrem, st_land, st_lor, st_lshl, st_lshr, st_i2l, st_l2i, st_i2b, st_i2s, st_i2c, st_lcmp, st_dup, st_pop, st_dup2, st_pop2, st_getfield, st_getstatic, st_checkcast, st_instanceof, st_putfield, st_putstatic, st_dstore, st_iaload, st_baload, st_laload, st_aaload, st_iastore, st_bastore, st_lastore, st_arraylength, st_dcmpg, st_dcmpl, st_fcmpg, st_fcmpl, st_monitorenter, st_tableswitch, st_multianewarray, st_invokeinterface, st_ireturn, st_lreturn, st_return_, st_ldc, st_ldc_w, st_ldc2_w, st_freturn, st_invokevirtual, st_anewarray0, st_anewarray1, st_anewarray2, st_anewarray3, st_anewarray4, st_anewarray5, st_lookupswitch, popI_c, popL_c, popR_c, popV_c, getI_c, getL_c, getR_c, lg_z, lg_s, ls1_z, ls1_o, ls1_s, ls2_z, ls2_o, ls2_s, noL_i, noL_l, noL_r, isL_i, isL_l, isL_r, tk_z, tk_s, psh_n, psh_s, ent_e, entL_n, entL_c, cc_eq, cc_ne, cc_lt, cc_ge, cc_gt, cc_le, swt_n, swt_c, lsw_n, lsw_c, mPs, NSTR_e, akds, alens, cnts, arfs, inb_e, lcm_lt, lcm_gt, lcm_ge, lcm_le, lcm_eq, lcm_a, lcm_b, Int.reduceToNat, Nat.reduceDiv, Nat.reduceMod, Nat.reduceMul, Nat.reduceAdd, Nat.reduceSub, Nat.reduceLT, Nat.reduceLeDiff, Nat.reduceEqDiff, Int.reduceNeg, Int.reduceAdd, Nat.one_mul, Nat.zero_mul, Nat.add_zero, Nat.zero_add, if_true, if_false, eq_self, true_and, and_true, true_or, or_true, false_or, or_false, List.length_cons, List.length_nil, List.cons_append, List.nil_append, List.replicate_zero, List.replicate_succ, Nat.lt_irrefl, reduceCtorEq, Bool.false_eq_true, in32, in64, Int.reduceLE, Int.reduceLT, Int.reduceEq, Int.reduceNe, not_true_eq_false, not_false_eq_true, true_implies, false_implies, implies_true, false_and, and_false, and_self, b_X1_follow, r_X1_follow]
              (repeat' with_reducible first | apply And.intro | intro _)
              all_goals try omega
              all_goals exact this
          · have := skip ok
            have b01 := bit01 used p.toNat
            simp only [wp_c, st_iload, st_lload, st_aload, st_istore, st_lstore, st_astore, st_iinc, st_sipush, st_jsr_w, st_goto, st_jsr, st_goto_w, st_if_icmp, st_ifCond, st_iadd, st_isub, st_imul, st_idiv, st_irem, st_iand, st_ior, st_ixor, st_ishl, st_ishr, st_iushr, st_ladd, st_lsub, st_lmul, st_ldiv, st_lrem, st_land, st_lor, st_lshl, st_lshr, st_i2l, st_l2i, st_i2b, st_i2s, st_i2c, st_lcmp, st_dup, st_pop, st_dup2, st_pop2, st_getfield, st_getstatic, st_checkcast, st_instanceof, st_putfield, st_putstatic, st_dstore, st_iaload, st_baload, st_laload, st_aaload, st_iastore, st_bastore, st_lastore, st_arraylength, st_dcmpg, st_dcmpl, st_fcmpg, st_fcmpl, st_monitorenter, st_tableswitch, st_multianewarray, st_invokeinterface, st_ireturn, st_lreturn, st_return_, st_ldc, st_ldc_w, st_ldc2_w, st_freturn, st_invokevirtual, st_anewarray0, st_anewarray1, st_anewarray2, st_anewarray3, st_anewarray4, st_anewarray5, st_lookupswitch, popI_c, popL_c, popR_c, popV_c, getI_c, getL_c, getR_c, lg_z, lg_s, ls1_z, ls1_o, ls1_s, ls2_z, ls2_o, ls2_s, noL_i, noL_l, noL_r, isL_i, isL_l, isL_r, tk_z, tk_s, psh_n, psh_s, ent_e, entL_n, entL_c, cc_eq, cc_ne, cc_lt, cc_ge, cc_gt, cc_le, swt_n, swt_c, lsw_n, lsw_c, mPs, NSTR_e, akds, alens, cnts, arfs, inb_e, lcm_lt, lcm_gt, lcm_ge, lcm_le, lcm_eq, lcm_a, lcm_b, Int.reduceToNat, Nat.reduceDiv, Nat.reduceMod, Nat.reduceMul, Nat.reduceAdd, Nat.reduceSub, Nat.reduceLT, Nat.reduceLeDiff, Nat.reduceEqDiff, Int.reduceNeg, Int.reduceAdd, Nat.one_mul, Nat.zero_mul, Nat.add_zero, Nat.zero_add, if_true, if_false, eq_self, true_and, and_true, true_or, or_true, false_or, or_false, List.length_cons, List.length_nil, List.cons_append, List.nil_append, List.replicate_zero, List.replicate_succ, Nat.lt_irrefl, reduceCtorEq, Bool.false_eq_true, in32, in64, Int.reduceLE, Int.reduceLT, Int.reduceEq, Int.reduceNe, not_true_eq_false, not_false_eq_true, true_implies, false_implies, implies_true, false_and, and_false, and_self, b_X1_follow, r_X1_follow, s1, s2]
            (repeat' with_reducible first | apply And.intro | intro _)
            all_goals try omega
            all_goals exact this
    have e : (((a 2 - (f 0 + 1)).toNat : Nat) : Int) * 7 ^ n ≤ 6 * 7 ^ n := Int.mul_le_mul_of_nonneg_right (by omega) (by omega)
    have fin : ∀ (x7 : AV) (σc : Mem), isL x7 = false → eqx [1, 17] σ σc → RgC σc S0 → Rn (d + n + 2 + 1) 18 53 [.inr (.inr (some (1, 0))), .inl m, .inl used, .inl l, .inl (f (m - 1)), .inl (dz a (f (m - 1)) (f 0)), .inl (f 0 + 1), x7] [] σc K := fun x7 σc hx xc cr => H (a 2 - (f 0 + 1)).toNat (f 0 + 1) x7 S0 σc hx (by omega) (by omega) rfl (xc.wd (by decide)) (fun i x y => by rw [xc 16 (by decide)]; exact h16 i x y) cb.1 (by omega) cr
    refine e_X1_follow (Nat.le_of_ble_eq_true rfl) ?_
    simp only [wp_c, st_iload, st_lload, st_aload, st_istore, st_lstore, st_astore, st_iinc, st_sipush, st_jsr_w, st_goto, st_jsr, st_goto_w, st_if_icmp, st_ifCond, st_iadd, st_isub, st_imul, st_idiv, st_irem, st_iand, st_ior, st_ixor, st_ishl, st_ishr, st_iushr, st_ladd, st_lsub, st_lmul, st_ldiv, st_lrem, st_land, st_lor, st_lshl, st_lshr, st_i2l, st_l2i, st_i2b, st_i2s, st_i2c, st_lcmp, st_dup, st_pop, st_dup2, st_pop2, st_getfield, st_getstatic, st_checkcast, st_instanceof, st_putfield, st_putstatic, st_dstore, st_iaload, st_baload, st_laload, st_aaload, st_iastore, st_bastore, st_lastore, st_arraylength, st_dcmpg, st_dcmpl, st_fcmpg, st_fcmpl, st_monitorenter, st_tableswitch, st_multianewarray, st_invokeinterface, st_ireturn, st_lreturn, st_return_, st_ldc, st_ldc_w, st_ldc2_w, st_freturn, st_invokevirtual, st_anewarray0, st_anewarray1, st_anewarray2, st_anewarray3, st_anewarray4, st_anewarray5, st_lookupswitch, popI_c, popL_c, popR_c, popV_c, getI_c, getL_c, getR_c, lg_z, lg_s, ls1_z, ls1_o, ls1_s, ls2_z, ls2_o, ls2_s, noL_i, noL_l, noL_r, isL_i, isL_l, isL_r, tk_z, tk_s, psh_n, psh_s, ent_e, entL_n, entL_c, cc_eq, cc_ne, cc_lt, cc_ge, cc_gt, cc_le, swt_n, swt_c, lsw_n, lsw_c, mPs, NSTR_e, akds, alens, cnts, arfs, inb_e, lcm_lt, lcm_gt, lcm_ge, lcm_le, lcm_eq, lcm_a, lcm_b, Int.reduceToNat, Nat.reduceDiv, Nat.reduceMod, Nat.reduceMul, Nat.reduceAdd, Nat.reduceSub, Nat.reduceLT, Nat.reduceLeDiff, Nat.reduceEqDiff, Int.reduceNeg, Int.reduceAdd, Nat.one_mul, Nat.zero_mul, Nat.add_zero, Nat.zero_add, if_true, if_false, eq_self, true_and, and_true, true_or, or_true, false_or, or_false, List.length_cons, List.length_nil, List.cons_append, List.nil_append, List.replicate_zero, List.replicate_succ, Nat.lt_irrefl, reduceCtorEq, Bool.false_eq_true, in32, in64, Int.reduceLE, Int.reduceLT, Int.reduceEq, Int.reduceNe, not_true_eq_false, not_false_eq_true, true_implies, false_implies, implies_true, false_and, and_false, and_self, b_X1_follow, r_X1_follow, e0, el]
    (repeat' with_reducible first | apply And.intro | intro _)
    all_goals try omega
    refine c_ow pl pf hi ?_
    rw [hv]
    by_cases c2 : 0 < dz a (f (m - 1)) (f 0)
    · have c1 : 1 < m := by
        by_cases c : m = 1
        · rw [c] at c2
          have := ho.diag pf
          rw [show (1 : Int) - 1 = 0 by decide] at c2
          omega
        · omega
      unfold clz at hS0
      rw [if_pos ⟨c1, c2⟩] at hS0
      have im := lsI_c ho ⟨by omega, h3⟩ hp hl
      simp only [wp_c, st_iload, st_lload, st_aload, st_istore, st_lstore, st_astore, st_iinc, st_sipush, st_jsr_w, st_goto, st_jsr, st_goto_w, st_if_icmp, st_ifCond, st_iadd, st_isub, st_imul, st_idiv, st_irem, st_iand, st_ior, st_ixor, st_ishl, st_ishr, st_iushr, st_ladd, st_lsub, st_lmul, st_ldiv, st_lrem, st_land, st_lor, st_lshl, st_lshr, st_i2l, st_l2i, st_i2b, st_i2s, st_i2c, st_lcmp, st_dup, st_pop, st_dup2, st_pop2, st_getfield, st_getstatic, st_checkcast, st_instanceof, st_putfield, st_putstatic, st_dstore, st_iaload, st_baload, st_laload, st_aaload, st_iastore, st_bastore, st_lastore, st_arraylength, st_dcmpg, st_dcmpl, st_fcmpg, st_fcmpl, st_monitorenter, st_tableswitch, st_multianewarray, st_invokeinterface, st_ireturn, st_lreturn, st_return_, st_ldc, st_ldc_w, st_ldc2_w, st_freturn, st_invokevirtual, st_anewarray0, st_anewarray1, st_anewarray2, st_anewarray3, st_anewarray4, st_anewarray5, st_lookupswitch, popI_c, popL_c, popR_c, popV_c, getI_c, getL_c, getR_c, lg_z, lg_s, ls1_z, ls1_o, ls1_s, ls2_z, ls2_o, ls2_s, noL_i, noL_l, noL_r, isL_i, isL_l, isL_r, tk_z, tk_s, psh_n, psh_s, ent_e, entL_n, entL_c, cc_eq, cc_ne, cc_lt, cc_ge, cc_gt, cc_le, swt_n, swt_c, lsw_n, lsw_c, mPs, NSTR_e, akds, alens, cnts, arfs, inb_e, lcm_lt, lcm_gt, lcm_ge, lcm_le, lcm_eq, lcm_a, lcm_b, Int.reduceToNat, Nat.reduceDiv, Nat.reduceMod, Nat.reduceMul, Nat.reduceAdd, Nat.reduceSub, Nat.reduceLT, Nat.reduceLeDiff, Nat.reduceEqDiff, Int.reduceNeg, Int.reduceAdd, Nat.one_mul, Nat.zero_mul, Nat.add_zero, Nat.zero_add, if_true, if_false, eq_self, true_and, and_true, true_or, or_true, false_or, or_false, List.length_cons, List.length_nil, List.cons_append, List.nil_append, List.replicate_zero, List.replicate_succ, Nat.lt_irrefl, reduceCtorEq, Bool.false_eq_true, in32, in64, Int.reduceLE, Int.reduceLT, Int.reduceEq, Int.reduceNe, not_true_eq_false, not_false_eq_true, true_implies, false_implies, implies_true, false_and, and_false, and_self, b_X1_follow, r_X1_follow, im]
      (repeat' with_reducible first | apply And.intro | intro _)
      all_goals try omega
      refine c_close (f := f) (s := s) ho ⟨by omega, h3⟩ h16 hp hs (by omega) hr (fun σ1 x1 gr => ?_)
      rw [hS0] at gr
      have e01 : σ1 16 0 0 = f 0 := by rw [x1 16 (by decide)]; exact e0
      simp only [wp_c, st_iload, st_lload, st_aload, st_istore, st_lstore, st_astore, st_iinc, st_sipush, st_jsr_w, st_goto, st_jsr, st_goto_w, st_if_icmp, st_ifCond, st_iadd, st_isub, st_imul, st_idiv, st_irem, st_iand, st_ior, st_ixor, st_ishl, st_ishr, st_iushr, st_ladd, st_lsub, st_lmul, st_ldiv, st_lrem, st_land, st_lor, st_lshl, st_lshr, st_i2l, st_l2i, st_i2b, st_i2s, st_i2c, st_lcmp, st_dup, st_pop, st_dup2, st_pop2, st_getfield, st_getstatic, st_checkcast, st_instanceof, st_putfield, st_putstatic, st_dstore, st_iaload, st_baload, st_laload, st_aaload, st_iastore, st_bastore, st_lastore, st_arraylength, st_dcmpg, st_dcmpl, st_fcmpg, st_fcmpl, st_monitorenter, st_tableswitch, st_multianewarray, st_invokeinterface, st_ireturn, st_lreturn, st_return_, st_ldc, st_ldc_w, st_ldc2_w, st_freturn, st_invokevirtual, st_anewarray0, st_anewarray1, st_anewarray2, st_anewarray3, st_anewarray4, st_anewarray5, st_lookupswitch, popI_c, popL_c, popR_c, popV_c, getI_c, getL_c, getR_c, lg_z, lg_s, ls1_z, ls1_o, ls1_s, ls2_z, ls2_o, ls2_s, noL_i, noL_l, noL_r, isL_i, isL_l, isL_r, tk_z, tk_s, psh_n, psh_s, ent_e, entL_n, entL_c, cc_eq, cc_ne, cc_lt, cc_ge, cc_gt, cc_le, swt_n, swt_c, lsw_n, lsw_c, mPs, NSTR_e, akds, alens, cnts, arfs, inb_e, lcm_lt, lcm_gt, lcm_ge, lcm_le, lcm_eq, lcm_a, lcm_b, Int.reduceToNat, Nat.reduceDiv, Nat.reduceMod, Nat.reduceMul, Nat.reduceAdd, Nat.reduceSub, Nat.reduceLT, Nat.reduceLeDiff, Nat.reduceEqDiff, Int.reduceNeg, Int.reduceAdd, Nat.one_mul, Nat.zero_mul, Nat.add_zero, Nat.zero_add, if_true, if_false, eq_self, true_and, and_true, true_or, or_true, false_or, or_false, List.length_cons, List.length_nil, List.cons_append, List.nil_append, List.replicate_zero, List.replicate_succ, Nat.lt_irrefl, reduceCtorEq, Bool.false_eq_true, in32, in64, Int.reduceLE, Int.reduceLT, Int.reduceEq, Int.reduceNe, not_true_eq_false, not_false_eq_true, true_implies, false_implies, implies_true, false_and, and_false, and_self, b_X1_follow, r_X1_follow, e01]
      (repeat' with_reducible first | apply And.intro | intro _)
      all_goals try omega
      all_goals exact fin _ σ1 rfl x1 gr
    · unfold clz at hS0
      rw [if_neg (fun x => c2 x.2)] at hS0
      rw [← hS0] at fin
      simp only [wp_c, st_iload, st_lload, st_aload, st_istore, st_lstore, st_astore, st_iinc, st_sipush, st_jsr_w, st_goto, st_jsr, st_goto_w, st_if_icmp, st_ifCond, st_iadd, st_isub, st_imul, st_idiv, st_irem, st_iand, st_ior, st_ixor, st_ishl, st_ishr, st_iushr, st_ladd, st_lsub, st_lmul, st_ldiv, st_lrem, st_land, st_lor, st_lshl, st_lshr, st_i2l, st_l2i, st_i2b, st_i2s, st_i2c, st_lcmp, st_dup, st_pop, st_dup2, st_pop2, st_getfield, st_getstatic, st_checkcast, st_instanceof, st_putfield, st_putstatic, st_dstore, st_iaload, st_baload, st_laload, st_aaload, st_iastore, st_bastore, st_lastore, st_arraylength, st_dcmpg, st_dcmpl, st_fcmpg, st_fcmpl, st_monitorenter, st_tableswitch, st_multianewarray, st_invokeinterface, st_ireturn, st_lreturn, st_return_, st_ldc, st_ldc_w, st_ldc2_w, st_freturn, st_invokevirtual, st_anewarray0, st_anewarray1, st_anewarray2, st_anewarray3, st_anewarray4, st_anewarray5, st_lookupswitch, popI_c, popL_c, popR_c, popV_c, getI_c, getL_c, getR_c, lg_z, lg_s, ls1_z, ls1_o, ls1_s, ls2_z, ls2_o, ls2_s, noL_i, noL_l, noL_r, isL_i, isL_l, isL_r, tk_z, tk_s, psh_n, psh_s, ent_e, entL_n, entL_c, cc_eq, cc_ne, cc_lt, cc_ge, cc_gt, cc_le, swt_n, swt_c, lsw_n, lsw_c, mPs, NSTR_e, akds, alens, cnts, arfs, inb_e, lcm_lt, lcm_gt, lcm_ge, lcm_le, lcm_eq, lcm_a, lcm_b, Int.reduceToNat, Nat.reduceDiv, Nat.reduceMod, Nat.reduceMul, Nat.reduceAdd, Nat.reduceSub, Nat.reduceLT, Nat.reduceLeDiff, Nat.reduceEqDiff, Int.reduceNeg, Int.reduceAdd, Nat.one_mul, Nat.zero_mul, Nat.add_zero, Nat.zero_add, if_true, if_false, eq_self, true_and, and_true, true_or, or_true, false_or, or_false, List.length_cons, List.length_nil, List.cons_append, List.nil_append, List.replicate_zero, List.replicate_succ, Nat.lt_irrefl, reduceCtorEq, Bool.false_eq_true, in32, in64, Int.reduceLE, Int.reduceLT, Int.reduceEq, Int.reduceNe, not_true_eq_false, not_false_eq_true, true_implies, false_implies, implies_true, false_and, and_false, and_self, b_X1_follow, r_X1_follow, e0]
      (repeat' with_reducible first | apply And.intro | intro _)
      all_goals try omega
      all_goals exact fin _ σ rfl eqx.rf hr
variable {σ : Mem} {K : Option AV → Mem → Prop}
theorem c_findRings (hi : WI σ 0 b lw ll) (hK : ∀ σ', eqx [1, 16, 17] σ σ' → RgC σ' (rngT (V σ 0 b)) → K none σ') : Ev (d + 9) 17 [.inr (.inr (some (1, 0)))] σ K := by
  have ho := hi.2.2.1
  have hP := ho.P
  have hpl : pln σ 0 < (σ 60 0 0).toNat := hi.2.1
  generalize hv : V σ 0 b = a at ho hP hK
  unfold rngT at hK
  have H : ∀ (q : Nat) (p : Int) (sc : TS) (σc : Mem), 0 ≤ p → p + q = a 2 → gA a q p sc = gA a (a 2).toNat 0 (0, 0, 0, f0) → eqx [1, 16, 17] σ σc → tsB sc → sc.1 + (q : Int) * 117649 ≤ 2147483647 → RgC σc sc → Rn (d + 9) 17 17 [.inr (.inr (some (1, 0))), .inl p] [] σc K := by
    intro q
    induction q with
    | zero =>
      intro p sc σc q1 q2 hh xc cs cs2 cr
      have hh : sc = _ := hh
      rw [← hh] at hK
      have z1 : (σc 10 0 3).toNat = pln σ 0 := by rw [xc 10 (by decide)]; rfl
      have z2 : σc 3 (pln σ 0) 6 = a 2 := by rw [xc 3 (by decide), ← hv]; rfl
      have z3 : σc 60 = σ 60 := xc 60 (by decide)
      have := hK σc xc cr
      refine l_X1_findRings_17 ?_
      simp only [wp_c, st_iload, st_lload, st_aload, st_istore, st_lstore, st_astore, st_iinc, st_sipush, st_jsr_w, st_goto, st_jsr, st_goto_w, st_if_icmp, st_ifCond, st_iadd, st_isub, st_imul, st_idiv, st_irem, st_iand, st_ior, st_ixor, st_ishl, st_ishr, st_iushr, st_ladd, st_lsub, st_lmul, st_ldiv, st_lrem, st_land, st_lor, st_lshl, st_lshr, st_i2l, st_l2i, st_i2b, st_i2s, st_i2c, st_lcmp, st_dup, st_pop, st_dup2, st_pop2, st_getfield, st_getstatic, st_checkcast, st_instanceof, st_putfield, st_putstatic, st_dstore, st_iaload, st_baload, st_laload, st_aaload, st_iastore, st_bastore, st_lastore, st_arraylength, st_dcmpg, st_dcmpl, st_fcmpg, st_fcmpl, st_monitorenter, st_tableswitch, st_multianewarray, st_invokeinterface, st_ireturn, st_lreturn, st_return_, st_ldc, st_ldc_w, st_ldc2_w, st_freturn, st_invokevirtual, st_anewarray0, st_anewarray1, st_anewarray2, st_anewarray3, st_anewarray4, st_anewarray5, st_lookupswitch, popI_c, popL_c, popR_c, popV_c, getI_c, getL_c, getR_c, lg_z, lg_s, ls1_z, ls1_o, ls1_s, ls2_z, ls2_o, ls2_s, noL_i, noL_l, noL_r, isL_i, isL_l, isL_r, tk_z, tk_s, psh_n, psh_s, ent_e, entL_n, entL_c, cc_eq, cc_ne, cc_lt, cc_ge, cc_gt, cc_le, swt_n, swt_c, lsw_n, lsw_c, mPs, NSTR_e, akds, alens, cnts, arfs, inb_e, lcm_lt, lcm_gt, lcm_ge, lcm_le, lcm_eq, lcm_a, lcm_b, Int.reduceToNat, Nat.reduceDiv, Nat.reduceMod, Nat.reduceMul, Nat.reduceAdd, Nat.reduceSub, Nat.reduceLT, Nat.reduceLeDiff, Nat.reduceEqDiff, Int.reduceNeg, Int.reduceAdd, Nat.one_mul, Nat.zero_mul, Nat.add_zero, Nat.zero_add, if_true, if_false, eq_self, true_and, and_true, true_or, or_true, false_or, or_false, List.length_cons, List.length_nil, List.cons_append, List.nil_append, List.replicate_zero, List.replicate_succ, Nat.lt_irrefl, reduceCtorEq, Bool.false_eq_true, in32, in64, Int.reduceLE, Int.reduceLT, Int.reduceEq, Int.reduceNe, not_true_eq_false, not_false_eq_true, true_implies, false_implies, implies_true, false_and, and_false, and_self, b_X1_findRings, r_X1_findRings, h_X1_findRings_17, z1, z2, z3]
      (repeat' with_reducible first | apply And.intro | intro _)
      all_goals try omega
      all_goals exact this
    | succ q ih2 =>
      intro p sc σc q1 q2 hh xc cs cs2 cr
      have hh : gA a q (p + 1) (gG a 6 1 (fun _ => p) (2 ^ p.toNat) sc) = _ := hh
      have z1 : (σc 10 0 3).toNat = pln σ 0 := by rw [xc 10 (by decide)]; rfl
      have z2 : σc 3 (pln σ 0) 6 = a 2 := by rw [xc 3 (by decide), ← hv]; rfl
      have z3 : σc 60 = σ 60 := xc 60 (by decide)
      have hsh := ishl_z (z := p) ⟨q1, by omega⟩
      have pw : (1 : Int) ≤ 2 ^ p.toNat := pow_1 _
      obtain ⟨w1, w2⟩ := pcz_1 ⟨p.toNat, by omega⟩
      have w1 : pcz (2 ^ p.toNat) = 1 := w1
      have w2 : (2 : Int) ^ p.toNat < 64 := w2
      have gb := gG_b ho 6 1 (fun _ => p) (2 ^ p.toNat) sc (by decide) (by decide) (fun k _ _ => ⟨q1, by omega⟩) cs
      have gb2 : (gG a 6 1 (fun _ => p) (2 ^ p.toNat) sc).1 ≤ sc.1 + 117649 := gb.2.2
      have c0 := cs.1
      have xm : eqx [1, 16, 17] σ (mu σc 16 0 0 p) := eqx_mu xc (by decide)
      refine l_X1_findRings_17 ?_
      simp only [wp_c, st_iload, st_lload, st_aload, st_istore, st_lstore, st_astore, st_iinc, st_sipush, st_jsr_w, st_goto, st_jsr, st_goto_w, st_if_icmp, st_ifCond, st_iadd, st_isub, st_imul, st_idiv, st_irem, st_iand, st_ior, st_ixor, st_ishl, st_ishr, st_iushr, st_ladd, st_lsub, st_lmul, st_ldiv, st_lrem, st_land, st_lor, st_lshl, st_lshr, st_i2l, st_l2i, st_i2b, st_i2s, st_i2c, st_lcmp, st_dup, st_pop, st_dup2, st_pop2, st_getfield, st_getstatic, st_checkcast, st_instanceof, st_putfield, st_putstatic, st_dstore, st_iaload, st_baload, st_laload, st_aaload, st_iastore, st_bastore, st_lastore, st_arraylength, st_dcmpg, st_dcmpl, st_fcmpg, st_fcmpl, st_monitorenter, st_tableswitch, st_multianewarray, st_invokeinterface, st_ireturn, st_lreturn, st_return_, st_ldc, st_ldc_w, st_ldc2_w, st_freturn, st_invokevirtual, st_anewarray0, st_anewarray1, st_anewarray2, st_anewarray3, st_anewarray4, st_anewarray5, st_lookupswitch, popI_c, popL_c, popR_c, popV_c, getI_c, getL_c, getR_c, lg_z, lg_s, ls1_z, ls1_o, ls1_s, ls2_z, ls2_o, ls2_s, noL_i, noL_l, noL_r, isL_i, isL_l, isL_r, tk_z, tk_s, psh_n, psh_s, ent_e, entL_n, entL_c, cc_eq, cc_ne, cc_lt, cc_ge, cc_gt, cc_le, swt_n, swt_c, lsw_n, lsw_c, mPs, NSTR_e, akds, alens, cnts, arfs, inb_e, lcm_lt, lcm_gt, lcm_ge, lcm_le, lcm_eq, lcm_a, lcm_b, Int.reduceToNat, Nat.reduceDiv, Nat.reduceMod, Nat.reduceMul, Nat.reduceAdd, Nat.reduceSub, Nat.reduceLT, Nat.reduceLeDiff, Nat.reduceEqDiff, Int.reduceNeg, Int.reduceAdd, Nat.one_mul, Nat.zero_mul, Nat.add_zero, Nat.zero_add, if_true, if_false, eq_self, true_and, and_true, true_or, or_true, false_or, or_false, List.length_cons, List.length_nil, List.cons_append, List.nil_append, List.replicate_zero, List.replicate_succ, Nat.lt_irrefl, reduceCtorEq, Bool.false_eq_true, in32, in64, Int.reduceLE, Int.reduceLT, Int.reduceEq, Int.reduceNe, not_true_eq_false, not_false_eq_true, true_implies, false_implies, implies_true, false_and, and_false, and_self, b_X1_findRings, r_X1_findRings, h_X1_findRings_17, z1, z2, z3, hsh]
      (repeat' with_reducible first | apply And.intro | intro _)
      all_goals try omega
      refine c_follow (d := d) (a := a) 6 1 (fun _ => p) (2 ^ p.toNat) 99 sc _ _ (WI_x xm (by decide) (by decide) hi) ((V_x xm (by decide) 0 b).trans hv) (by decide) (by decide) (by decide) ⟨by omega, w2⟩ w1 ⟨⟨by decide, by decide⟩, fun i x y => by omega, Or.inl rfl⟩ (fun i x y => ?_) (fun i _ _ => ⟨q1, by omega⟩) cs (by show sc.1 + 117649 ≤ _; omega) ?_ (fun σ2 x2 g16 gr => ?_)
      · have : i = 0 := by omega
        subst this
        rw [mu_at, if_pos (show Int.toNat 0 = 0 from rfl)]
      · obtain ⟨z1, z2, z3, z4⟩ := cr
        exact ⟨by rw [mu_k (by decide)]; exact z1, by rw [mu_k (by decide)]; exact z2, by rw [mu_k (by decide)]; exact z3, fun i x y => by rw [mu_k (by decide)]; exact z4 i x y⟩
      · have := ih2 (p + 1) _ σ2 (by omega) (by omega) hh (xm.tr x2) gb.1 (by omega) gr
        simp only [wp_c, st_iload, st_lload, st_aload, st_istore, st_lstore, st_astore, st_iinc, st_sipush, st_jsr_w, st_goto, st_jsr, st_goto_w, st_if_icmp, st_ifCond, st_iadd, st_isub, st_imul, st_idiv, st_irem, st_iand, st_ior, st_ixor, st_ishl, st_ishr, st_iushr, st_ladd, st_lsub, st_lmul, st_ldiv, st_lrem, st_land, st_lor, st_lshl, st_lshr, st_i2l, st_l2i, st_i2b, st_i2s, st_i2c, st_lcmp, st_dup, st_pop, st_dup2, st_pop2, st_getfield, st_getstatic, st_checkcast, st_instanceof, st_putfield, st_putstatic, st_dstore, st_iaload, st_baload, st_laload, st_aaload, st_iastore, st_bastore, st_lastore, st_arraylength, st_dcmpg, st_dcmpl, st_fcmpg, st_fcmpl, st_monitorenter, st_tableswitch, st_multianewarray, st_invokeinterface, st_ireturn, st_lreturn, st_return_, st_ldc, st_ldc_w, st_ldc2_w, st_freturn, st_invokevirtual, st_anewarray0, st_anewarray1, st_anewarray2, st_anewarray3, st_anewarray4, st_anewarray5, st_lookupswitch, popI_c, popL_c, popR_c, popV_c, getI_c, getL_c, getR_c, lg_z, lg_s, ls1_z, ls1_o, ls1_s, ls2_z, ls2_o, ls2_s, noL_i, noL_l, noL_r, isL_i, isL_l, isL_r, tk_z, tk_s, psh_n, psh_s, ent_e, entL_n, entL_c, cc_eq, cc_ne, cc_lt, cc_ge, cc_gt, cc_le, swt_n, swt_c, lsw_n, lsw_c, mPs, NSTR_e, akds, alens, cnts, arfs, inb_e, lcm_lt, lcm_gt, lcm_ge, lcm_le, lcm_eq, lcm_a, lcm_b, Int.reduceToNat, Nat.reduceDiv, Nat.reduceMod, Nat.reduceMul, Nat.reduceAdd, Nat.reduceSub, Nat.reduceLT, Nat.reduceLeDiff, Nat.reduceEqDiff, Int.reduceNeg, Int.reduceAdd, Nat.one_mul, Nat.zero_mul, Nat.add_zero, Nat.zero_add, if_true, if_false, eq_self, true_and, and_true, true_or, or_true, false_or, or_false, List.length_cons, List.length_nil, List.cons_append, List.nil_append, List.replicate_zero, List.replicate_succ, Nat.lt_irrefl, reduceCtorEq, Bool.false_eq_true, in32, in64, Int.reduceLE, Int.reduceLT, Int.reduceEq, Int.reduceNe, not_true_eq_false, not_false_eq_true, true_implies, false_implies, implies_true, false_and, and_false, and_self, b_X1_findRings, r_X1_findRings]
        (repeat' with_reducible first | apply And.intro | intro _)
        all_goals try omega
        all_goals exact this
  refine e_X1_findRings (Nat.le_of_ble_eq_true rfl) ?_
  simp only [wp_c, st_iload, st_lload, st_aload, st_istore, st_lstore, st_astore, st_iinc, st_sipush, st_jsr_w, st_goto, st_jsr, st_goto_w, st_if_icmp, st_ifCond, st_iadd, st_isub, st_imul, st_idiv, st_irem, st_iand, st_ior, st_ixor, st_ishl, st_ishr, st_iushr, st_ladd, st_lsub, st_lmul, st_ldiv, st_lrem, st_land, st_lor, st_lshl, st_lshr, st_i2l, st_l2i, st_i2b, st_i2s, st_i2c, st_lcmp, st_dup, st_pop, st_dup2, st_pop2, st_getfield, st_getstatic, st_checkcast, st_instanceof, st_putfield, st_putstatic, st_dstore, st_iaload, st_baload, st_laload, st_aaload, st_iastore, st_bastore, st_lastore, st_arraylength, st_dcmpg, st_dcmpl, st_fcmpg, st_fcmpl, st_monitorenter, st_tableswitch, st_multianewarray, st_invokeinterface, st_ireturn, st_lreturn, st_return_, st_ldc, st_ldc_w, st_ldc2_w, st_freturn, st_invokevirtual, st_anewarray0, st_anewarray1, st_anewarray2, st_anewarray3, st_anewarray4, st_anewarray5, st_lookupswitch, popI_c, popL_c, popR_c, popV_c, getI_c, getL_c, getR_c, lg_z, lg_s, ls1_z, ls1_o, ls1_s, ls2_z, ls2_o, ls2_s, noL_i, noL_l, noL_r, isL_i, isL_l, isL_r, tk_z, tk_s, psh_n, psh_s, ent_e, entL_n, entL_c, cc_eq, cc_ne, cc_lt, cc_ge, cc_gt, cc_le, swt_n, swt_c, lsw_n, lsw_c, mPs, NSTR_e, akds, alens, cnts, arfs, inb_e, lcm_lt, lcm_gt, lcm_ge, lcm_le, lcm_eq, lcm_a, lcm_b, Int.reduceToNat, Nat.reduceDiv, Nat.reduceMod, Nat.reduceMul, Nat.reduceAdd, Nat.reduceSub, Nat.reduceLT, Nat.reduceLeDiff, Nat.reduceEqDiff, Int.reduceNeg, Int.reduceAdd, Nat.one_mul, Nat.zero_mul, Nat.add_zero, Nat.zero_add, if_true, if_false, eq_self, true_and, and_true, true_or, or_true, false_or, or_false, List.length_cons, List.length_nil, List.cons_append, List.nil_append, List.replicate_zero, List.replicate_succ, Nat.lt_irrefl, reduceCtorEq, Bool.false_eq_true, in32, in64, Int.reduceLE, Int.reduceLT, Int.reduceEq, Int.reduceNe, not_true_eq_false, not_false_eq_true, true_implies, false_implies, implies_true, false_and, and_false, and_self, b_X1_findRings, r_X1_findRings]
  (repeat' with_reducible first | apply And.intro | intro _)
  all_goals try omega
  exact H (a 2).toNat 0 (0, 0, 0, f0) _ (by decide) (by omega) rfl (eqx_mu (eqx_mu (eqx_mu eqx.rf (by decide)) (by decide)) (by decide)) ⟨by decide, ⟨by decide, by decide⟩, by decide, by decide⟩ (by show (0 : Int) + _ ≤ _; omega) ⟨by rw [mu_at, if_neg (by decide), mu_at, if_neg (by decide), mu_at, if_pos rfl], by rw [mu_at, if_neg (by decide), mu_at, if_pos rfl], by rw [mu_at, if_pos rfl], fun i x y => by have y : i < 0 := y; omega⟩
theorem c_rings (hi : WI σ 0 b lw ll) (hK : ∀ σ', eqx [1, 16, 17] σ σ' → K (some (.inl (rngT (V σ 0 b)).1)) σ') : Ev (d + 10) 138 [bo] σ K := by
  refine e_X11_rings (Nat.le_of_ble_eq_true rfl) ?_
  simp only [wp_c, st_iload, st_lload, st_aload, st_istore, st_lstore, st_astore, st_iinc, st_sipush, st_jsr_w, st_goto, st_jsr, st_goto_w, st_if_icmp, st_ifCond, st_iadd, st_isub, st_imul, st_idiv, st_irem, st_iand, st_ior, st_ixor, st_ishl, st_ishr, st_iushr, st_ladd, st_lsub, st_lmul, st_ldiv, st_lrem, st_land, st_lor, st_lshl, st_lshr, st_i2l, st_l2i, st_i2b, st_i2s, st_i2c, st_lcmp, st_dup, st_pop, st_dup2, st_pop2, st_getfield, st_getstatic, st_checkcast, st_instanceof, st_putfield, st_putstatic, st_dstore, st_iaload, st_baload, st_laload, st_aaload, st_iastore, st_bastore, st_lastore, st_arraylength, st_dcmpg, st_dcmpl, st_fcmpg, st_fcmpl, st_monitorenter, st_tableswitch, st_multianewarray, st_invokeinterface, st_ireturn, st_lreturn, st_return_, st_ldc, st_ldc_w, st_ldc2_w, st_freturn, st_invokevirtual, st_anewarray0, st_anewarray1, st_anewarray2, st_anewarray3, st_anewarray4, st_anewarray5, st_lookupswitch, popI_c, popL_c, popR_c, popV_c, getI_c, getL_c, getR_c, lg_z, lg_s, ls1_z, ls1_o, ls1_s, ls2_z, ls2_o, ls2_s, noL_i, noL_l, noL_r, isL_i, isL_l, isL_r, tk_z, tk_s, psh_n, psh_s, ent_e, entL_n, entL_c, cc_eq, cc_ne, cc_lt, cc_ge, cc_gt, cc_le, swt_n, swt_c, lsw_n, lsw_c, mPs, NSTR_e, akds, alens, cnts, arfs, inb_e, lcm_lt, lcm_gt, lcm_ge, lcm_le, lcm_eq, lcm_a, lcm_b, Int.reduceToNat, Nat.reduceDiv, Nat.reduceMod, Nat.reduceMul, Nat.reduceAdd, Nat.reduceSub, Nat.reduceLT, Nat.reduceLeDiff, Nat.reduceEqDiff, Int.reduceNeg, Int.reduceAdd, Nat.one_mul, Nat.zero_mul, Nat.add_zero, Nat.zero_add, if_true, if_false, eq_self, true_and, and_true, true_or, or_true, false_or, or_false, List.length_cons, List.length_nil, List.cons_append, List.nil_append, List.replicate_zero, List.replicate_succ, Nat.lt_irrefl, reduceCtorEq, Bool.false_eq_true, in32, in64, Int.reduceLE, Int.reduceLT, Int.reduceEq, Int.reduceNe, not_true_eq_false, not_false_eq_true, true_implies, false_implies, implies_true, false_and, and_false, and_self, b_X11_rings, r_X11_rings]
  (repeat' with_reducible first | apply And.intro | intro _)
  all_goals try omega
  refine c_findRings hi (fun σ1 x1 g => ?_)
  have g1 := g.1
  simp only [wp_c, st_iload, st_lload, st_aload, st_istore, st_lstore, st_astore, st_iinc, st_sipush, st_jsr_w, st_goto, st_jsr, st_goto_w, st_if_icmp, st_ifCond, st_iadd, st_isub, st_imul, st_idiv, st_irem, st_iand, st_ior, st_ixor, st_ishl, st_ishr, st_iushr, st_ladd, st_lsub, st_lmul, st_ldiv, st_lrem, st_land, st_lor, st_lshl, st_lshr, st_i2l, st_l2i, st_i2b, st_i2s, st_i2c, st_lcmp, st_dup, st_pop, st_dup2, st_pop2, st_getfield, st_getstatic, st_checkcast, st_instanceof, st_putfield, st_putstatic, st_dstore, st_iaload, st_baload, st_laload, st_aaload, st_iastore, st_bastore, st_lastore, st_arraylength, st_dcmpg, st_dcmpl, st_fcmpg, st_fcmpl, st_monitorenter, st_tableswitch, st_multianewarray, st_invokeinterface, st_ireturn, st_lreturn, st_return_, st_ldc, st_ldc_w, st_ldc2_w, st_freturn, st_invokevirtual, st_anewarray0, st_anewarray1, st_anewarray2, st_anewarray3, st_anewarray4, st_anewarray5, st_lookupswitch, popI_c, popL_c, popR_c, popV_c, getI_c, getL_c, getR_c, lg_z, lg_s, ls1_z, ls1_o, ls1_s, ls2_z, ls2_o, ls2_s, noL_i, noL_l, noL_r, isL_i, isL_l, isL_r, tk_z, tk_s, psh_n, psh_s, ent_e, entL_n, entL_c, cc_eq, cc_ne, cc_lt, cc_ge, cc_gt, cc_le, swt_n, swt_c, lsw_n, lsw_c, mPs, NSTR_e, akds, alens, cnts, arfs, inb_e, lcm_lt, lcm_gt, lcm_ge, lcm_le, lcm_eq, lcm_a, lcm_b, Int.reduceToNat, Nat.reduceDiv, Nat.reduceMod, Nat.reduceMul, Nat.reduceAdd, Nat.reduceSub, Nat.reduceLT, Nat.reduceLeDiff, Nat.reduceEqDiff, Int.reduceNeg, Int.reduceAdd, Nat.one_mul, Nat.zero_mul, Nat.add_zero, Nat.zero_add, if_true, if_false, eq_self, true_and, and_true, true_or, or_true, false_or, or_false, List.length_cons, List.length_nil, List.cons_append, List.nil_append, List.replicate_zero, List.replicate_succ, Nat.lt_irrefl, reduceCtorEq, Bool.false_eq_true, in32, in64, Int.reduceLE, Int.reduceLT, Int.reduceEq, Int.reduceNe, not_true_eq_false, not_false_eq_true, true_implies, false_implies, implies_true, false_and, and_false, and_self, b_X11_rings, r_X11_rings, g1]
  (repeat' with_reducible first | apply And.intro | intro _)
  all_goals try omega
  all_goals exact hK σ1 x1
theorem c_ring {i : Int} (h32 : in32 i) (hi : WI σ 0 b lw ll) (hK : ∀ σ', eqx [1, 16, 17] σ σ' → K (some (.inl (rngA (V σ 0 b) i))) σ') : Ev (d + 10) 139 [bo, .inl i] σ K := by
  have ho := hi.2.2.1
  unfold in32 at h32
  unfold rngA at hK
  have rb := rngT_b ho
  unfold tsB at rb
  by_cases c : i = 0 ∨ i = 1 ∨ (10 ≤ i ∧ i ≤ 15)
  · rw [if_pos c] at hK
    have body : ∀ K' : Option AV → Mem → Prop, (∀ σ1, (σ1 1 0 7 = (rngT (V σ 0 b)).1 ∧ σ1 1 0 5 = (rngT (V σ 0 b)).2.1 ∧ σ1 1 0 6 = (rngT (V σ 0 b)).2.2.1 ∧ ∀ i : Int, 0 ≤ i → i < (rngT (V σ 0 b)).2.1 → σ1 17 0 i.toNat = (rngT (V σ 0 b)).2.2.2 i) → K (some (.inl (if (rngT (V σ 0 b)).1 = 0 then -1 else if i = 0 then (rngT (V σ 0 b)).2.2.1 else if i = 1 then (rngT (V σ 0 b)).2.1 else if i - 10 < (rngT (V σ 0 b)).2.1 then (rngT (V σ 0 b)).2.2.2 (i - 10) else -1))) σ1 → K' none σ1) → Ev (d + 9) 17 [.inr (.inr (some (1, 0)))] σ K' := fun K' hk => c_findRings hi (fun σ1 x1 g => hk σ1 g (hK σ1 x1))
    generalize rngT (V σ 0 b) = R at hK body rb
    obtain ⟨r1, r2, r3, r4⟩ := R
    have rb : (0 ≤ r1 ∧ (0 ≤ r2 ∧ r2 ≤ 6) ∧ 0 ≤ r3 ∧ r3 ≤ 594) ∧ r1 ≤ 705894 := rb
    refine e_X11_ring (Nat.le_of_ble_eq_true rfl) ?_
    simp only [wp_c, st_iload, st_lload, st_aload, st_istore, st_lstore, st_astore, st_iinc, st_sipush, st_jsr_w, st_goto, st_jsr, st_goto_w, st_if_icmp, st_ifCond, st_iadd, st_isub, st_imul, st_idiv, st_irem, st_iand, st_ior, st_ixor, st_ishl, st_ishr, st_iushr, st_ladd, st_lsub, st_lmul, st_ldiv, st_lrem, st_land, st_lor, st_lshl, st_lshr, st_i2l, st_l2i, st_i2b, st_i2s, st_i2c, st_lcmp, st_dup, st_pop, st_dup2, st_pop2, st_getfield, st_getstatic, st_checkcast, st_instanceof, st_putfield, st_putstatic, st_dstore, st_iaload, st_baload, st_laload, st_aaload, st_iastore, st_bastore, st_lastore, st_arraylength, st_dcmpg, st_dcmpl, st_fcmpg, st_fcmpl, st_monitorenter, st_tableswitch, st_multianewarray, st_invokeinterface, st_ireturn, st_lreturn, st_return_, st_ldc, st_ldc_w, st_ldc2_w, st_freturn, st_invokevirtual, st_anewarray0, st_anewarray1, st_anewarray2, st_anewarray3, st_anewarray4, st_anewarray5, st_lookupswitch, popI_c, popL_c, popR_c, popV_c, getI_c, getL_c, getR_c, lg_z, lg_s, ls1_z, ls1_o, ls1_s, ls2_z, ls2_o, ls2_s, noL_i, noL_l, noL_r, isL_i, isL_l, isL_r, tk_z, tk_s, psh_n, psh_s, ent_e, entL_n, entL_c, cc_eq, cc_ne, cc_lt, cc_ge, cc_gt, cc_le, swt_n, swt_c, lsw_n, lsw_c, mPs, NSTR_e, akds, alens, cnts, arfs, inb_e, lcm_lt, lcm_gt, lcm_ge, lcm_le, lcm_eq, lcm_a, lcm_b, Int.reduceToNat, Nat.reduceDiv, Nat.reduceMod, Nat.reduceMul, Nat.reduceAdd, Nat.reduceSub, Nat.reduceLT, Nat.reduceLeDiff, Nat.reduceEqDiff, Int.reduceNeg, Int.reduceAdd, Nat.one_mul, Nat.zero_mul, Nat.add_zero, Nat.zero_add, if_true, if_false, eq_self, true_and, and_true, true_or, or_true, false_or, or_false, List.length_cons, List.length_nil, List.cons_append, List.nil_append, List.replicate_zero, List.replicate_succ, Nat.lt_irrefl, reduceCtorEq, Bool.false_eq_true, in32, in64, Int.reduceLE, Int.reduceLT, Int.reduceEq, Int.reduceNe, not_true_eq_false, not_false_eq_true, true_implies, false_implies, implies_true, false_and, and_false, and_self, b_X11_ring, r_X11_ring]
    (repeat' with_reducible first | apply And.intro | intro _)
    all_goals try omega
    all_goals refine body _ (fun σ1 g fin => ?_)
    all_goals obtain ⟨g1, g2, g3, g4⟩ := g
    all_goals replace g1 : σ1 1 0 7 = r1 := g1
    all_goals replace g2 : σ1 1 0 5 = r2 := g2
    all_goals replace g3 : σ1 1 0 6 = r3 := g3
    all_goals replace g4 : ∀ i : Int, 0 ≤ i → i < r2 → σ1 17 0 i.toNat = r4 i := g4
    all_goals replace fin : K (some (.inl (if r1 = 0 then -1 else if i = 0 then r3 else if i = 1 then r2 else if i - 10 < r2 then r4 (i - 10) else -1))) σ1 := fin
    all_goals by_cases e1 : r1 = 0
    all_goals by_cases e2 : i = 0
    all_goals by_cases e3 : i = 1
    all_goals by_cases e4 : i - 10 < r2
    all_goals try omega
    all_goals first | rw [if_pos e1] at fin | rw [if_neg e1, if_pos e2] at fin | rw [if_neg e1, if_neg e2, if_pos e3] at fin | (rw [if_neg e1, if_neg e2, if_neg e3, if_pos e4] at fin; have g5 := g4 (i - 10) (by omega) e4; rw [← g5] at fin) | rw [if_neg e1, if_neg e2, if_neg e3, if_neg e4] at fin
    all_goals simp only [wp_c, st_iload, st_lload, st_aload, st_istore, st_lstore, st_astore, st_iinc, st_sipush, st_jsr_w, st_goto, st_jsr, st_goto_w, st_if_icmp, st_ifCond, st_iadd, st_isub, st_imul, st_idiv, st_irem, st_iand, st_ior, st_ixor, st_ishl, st_ishr, st_iushr, st_ladd, st_lsub, st_lmul, st_ldiv, st_lrem, st_land, st_lor, st_lshl, st_lshr, st_i2l, st_l2i, st_i2b, st_i2s, st_i2c, st_lcmp, st_dup, st_pop, st_dup2, st_pop2, st_getfield, st_getstatic, st_checkcast, st_instanceof, st_putfield, st_putstatic, st_dstore, st_iaload, st_baload, st_laload, st_aaload, st_iastore, st_bastore, st_lastore, st_arraylength, st_dcmpg, st_dcmpl, st_fcmpg, st_fcmpl, st_monitorenter, st_tableswitch, st_multianewarray, st_invokeinterface, st_ireturn, st_lreturn, st_return_, st_ldc, st_ldc_w, st_ldc2_w, st_freturn, st_invokevirtual, st_anewarray0, st_anewarray1, st_anewarray2, st_anewarray3, st_anewarray4, st_anewarray5, st_lookupswitch, popI_c, popL_c, popR_c, popV_c, getI_c, getL_c, getR_c, lg_z, lg_s, ls1_z, ls1_o, ls1_s, ls2_z, ls2_o, ls2_s, noL_i, noL_l, noL_r, isL_i, isL_l, isL_r, tk_z, tk_s, psh_n, psh_s, ent_e, entL_n, entL_c, cc_eq, cc_ne, cc_lt, cc_ge, cc_gt, cc_le, swt_n, swt_c, lsw_n, lsw_c, mPs, NSTR_e, akds, alens, cnts, arfs, inb_e, lcm_lt, lcm_gt, lcm_ge, lcm_le, lcm_eq, lcm_a, lcm_b, Int.reduceToNat, Nat.reduceDiv, Nat.reduceMod, Nat.reduceMul, Nat.reduceAdd, Nat.reduceSub, Nat.reduceLT, Nat.reduceLeDiff, Nat.reduceEqDiff, Int.reduceNeg, Int.reduceAdd, Nat.one_mul, Nat.zero_mul, Nat.add_zero, Nat.zero_add, if_true, if_false, eq_self, true_and, and_true, true_or, or_true, false_or, or_false, List.length_cons, List.length_nil, List.cons_append, List.nil_append, List.replicate_zero, List.replicate_succ, Nat.lt_irrefl, reduceCtorEq, Bool.false_eq_true, in32, in64, Int.reduceLE, Int.reduceLT, Int.reduceEq, Int.reduceNe, not_true_eq_false, not_false_eq_true, true_implies, false_implies, implies_true, false_and, and_false, and_self, b_X11_ring, r_X11_ring, g1, g2, g3]
    all_goals (repeat' with_reducible first | apply And.intro | intro _)
    all_goals try omega
    all_goals exact fin
  · rw [if_neg c] at hK
    have := hK σ eqx.rf
    refine e_X11_ring (Nat.le_of_ble_eq_true rfl) ?_
    simp only [wp_c, st_iload, st_lload, st_aload, st_istore, st_lstore, st_astore, st_iinc, st_sipush, st_jsr_w, st_goto, st_jsr, st_goto_w, st_if_icmp, st_ifCond, st_iadd, st_isub, st_imul, st_idiv, st_irem, st_iand, st_ior, st_ixor, st_ishl, st_ishr, st_iushr, st_ladd, st_lsub, st_lmul, st_ldiv, st_lrem, st_land, st_lor, st_lshl, st_lshr, st_i2l, st_l2i, st_i2b, st_i2s, st_i2c, st_lcmp, st_dup, st_pop, st_dup2, st_pop2, st_getfield, st_getstatic, st_checkcast, st_instanceof, st_putfield, st_putstatic, st_dstore, st_iaload, st_baload, st_laload, st_aaload, st_iastore, st_bastore, st_lastore, st_arraylength, st_dcmpg, st_dcmpl, st_fcmpg, st_fcmpl, st_monitorenter, st_tableswitch, st_multianewarray, st_invokeinterface, st_ireturn, st_lreturn, st_return_, st_ldc, st_ldc_w, st_ldc2_w, st_freturn, st_invokevirtual, st_anewarray0, st_anewarray1, st_anewarray2, st_anewarray3, st_anewarray4, st_anewarray5, st_lookupswitch, popI_c, popL_c, popR_c, popV_c, getI_c, getL_c, getR_c, lg_z, lg_s, ls1_z, ls1_o, ls1_s, ls2_z, ls2_o, ls2_s, noL_i, noL_l, noL_r, isL_i, isL_l, isL_r, tk_z, tk_s, psh_n, psh_s, ent_e, entL_n, entL_c, cc_eq, cc_ne, cc_lt, cc_ge, cc_gt, cc_le, swt_n, swt_c, lsw_n, lsw_c, mPs, NSTR_e, akds, alens, cnts, arfs, inb_e, lcm_lt, lcm_gt, lcm_ge, lcm_le, lcm_eq, lcm_a, lcm_b, Int.reduceToNat, Nat.reduceDiv, Nat.reduceMod, Nat.reduceMul, Nat.reduceAdd, Nat.reduceSub, Nat.reduceLT, Nat.reduceLeDiff, Nat.reduceEqDiff, Int.reduceNeg, Int.reduceAdd, Nat.one_mul, Nat.zero_mul, Nat.add_zero, Nat.zero_add, if_true, if_false, eq_self, true_and, and_true, true_or, or_true, false_or, or_false, List.length_cons, List.length_nil, List.cons_append, List.nil_append, List.replicate_zero, List.replicate_succ, Nat.lt_irrefl, reduceCtorEq, Bool.false_eq_true, in32, in64, Int.reduceLE, Int.reduceLT, Int.reduceEq, Int.reduceNe, not_true_eq_false, not_false_eq_true, true_implies, false_implies, implies_true, false_and, and_false, and_self, b_X11_ring, r_X11_ring]
    (repeat' with_reducible first | apply And.intro | intro _)
    all_goals try omega
    all_goals exact this
end RINGC
