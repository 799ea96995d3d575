/-! 98: rings: mathematics, and the reference -/
abbrev TS : Type := Int × Int × Int × (Int → Int)
/-- a ring is found: how many, the size of the best, what it takes off, who -/
def lay (a : BV) (f : Int → Int) (m : Int) (s : TS) : TS := (s.1 + 1, if s.2.2.1 < lsr a f m * m then (m, lsr a f m * m, f) else s.2)
def clz (a : BV) (f : Int → Int) (m : Int) (s : TS) : TS := if 1 < m ∧ 0 < dz a (f (m - 1)) (f 0) then lay a f m s else s
def gL (rec : Int → TS → TS) (ok : Int → Bool) : Nat → Int → TS → TS
  | 0, _, s => s
  | c + 1, p, s => gL rec ok c (p + 1) (if ok p = true then rec p s else s)
/-- whom the last may go on to -/
def gok (a : BV) (f : Int → Int) (m used : Int) (q : Int) : Bool := decide (used / 2 ^ q.toNat % 2 = 0 ∧ 0 < dz a (f (m - 1)) q)
def gG (a : BV) : Nat → Int → (Int → Int) → Int → TS → TS
  | 0, _, _, _, s => s
  | n + 1, m, f, used, s => gL (fun q s => gG a n (m + 1) (fu f m q) (used + 2 ^ q.toNat) s) (gok a f m used) (a 2 - (f 0 + 1)).toNat (f 0 + 1) (clz a f m s)
def gA (a : BV) : Nat → Int → TS → TS
  | 0, _, s => s
  | c + 1, p, s => gA a c (p + 1) (gG a 6 1 (fun _ => p) (2 ^ p.toNat) s)
theorem p7 : ∀ n : Nat, 1 ≤ (7 : Int) ^ n := by
  intro n
  induction n with
  | zero => decide
  | succ n ih => rw [Int.pow_succ]; omega
/-- a state that may be -/
def tsB (s : TS) : Prop := 0 ≤ s.1 ∧ (0 ≤ s.2.1 ∧ s.2.1 ≤ 6) ∧ (0 ≤ s.2.2.1 ∧ s.2.2.1 ≤ 594)
theorem lsr_m {a : BV} {f : Int → Int} {m : Int} (ho : OkA a) (hm : 2 ≤ m ∧ m ≤ 6) (hp : ∀ k : Int, 0 ≤ k → k < m → 0 ≤ f k ∧ f k < 6) : 0 ≤ lsr a f m * m ∧ lsr a f m * m ≤ 594 := by
  have lb := lsr_b ho hm hp
  refine ⟨Int.mul_nonneg lb.1 (by omega), ?_⟩
  have := Int.mul_le_mul lb.2.1 hm.2 (by omega) (by decide)
  omega
theorem clz_b {a : BV} {f : Int → Int} {m : Int} {s : TS} (ho : OkA a) (hm : 1 ≤ m ∧ m ≤ 6) (hp : ∀ k : Int, 0 ≤ k → k < m → 0 ≤ f k ∧ f k < 6) (hs : tsB s) : tsB (clz a f m s) ∧ s.1 ≤ (clz a f m s).1 ∧ (clz a f m s).1 ≤ s.1 + 1 := by
  obtain ⟨s1, s2, s3, s4⟩ := s
  unfold tsB at hs ⊢
  unfold clz
  split
  · rename_i c
    have lm := lsr_m ho ⟨by omega, hm.2⟩ hp
    unfold lay
    show (0 ≤ s1 + 1 ∧ _) ∧ s1 ≤ s1 + 1 ∧ s1 + 1 ≤ s1 + 1
    have hs : 0 ≤ s1 ∧ (0 ≤ s2 ∧ s2 ≤ 6) ∧ 0 ≤ s3 ∧ s3 ≤ 594 := hs
    refine ⟨⟨by omega, ?_⟩, by omega, by omega⟩
    show (0 ≤ (if s3 < lsr a f m * m then (m, lsr a f m * m, f) else (s2, s3, s4)).1 ∧ (if s3 < lsr a f m * m then (m, lsr a f m * m, f) else (s2, s3, s4)).1 ≤ 6) ∧ 0 ≤ (if s3 < lsr a f m * m then (m, lsr a f m * m, f) else (s2, s3, s4)).2.1 ∧ (if s3 < lsr a f m * m then (m, lsr a f m * m, f) else (s2, s3, s4)).2.1 ≤ 594
    split
    · exact ⟨⟨by omega, by omega⟩, lm⟩
    · exact hs.2
  · exact ⟨hs, by omega, by omega⟩
theorem fu_p {f : Int → Int} {m q : Int} (hq : 0 ≤ q ∧ q < 6) (hp : ∀ k : Int, 0 ≤ k → k < m → 0 ≤ f k ∧ f k < 6) : ∀ k : Int, 0 ≤ k → k < m + 1 → 0 ≤ fu f m q k ∧ fu f m q k < 6 := fun k x y => by
  unfold fu
  split
  · exact hq
  · exact hp k x (by omega)
theorem gG_b {a : BV} (ho : OkA a) : ∀ (n : Nat) (m : Int) (f : Int → Int) (used : Int) (s : TS), 1 ≤ m → m + n = 7 → (∀ k : Int, 0 ≤ k → k < m → 0 ≤ f k ∧ f k < 6) → tsB s → tsB (gG a n m f used s) ∧ s.1 ≤ (gG a n m f used s).1 ∧ (gG a n m f used s).1 ≤ s.1 + 7 ^ n := by
  have hP := ho.P
  intro n
  induction n with
  | zero => intro m f used s h1 h2 hp hs; exact ⟨hs, Int.le_refl _, by show s.1 ≤ s.1 + 1; omega⟩
  | succ n ih =>
    intro m f used s h1 h2 hp hs
    have b1 := p7 n
    have b2 : (7 : Int) ^ (n + 1) = 7 ^ n * 7 := Int.pow_succ _ _
    have f0 := hp 0 (by decide) (by omega)
    have cb := clz_b ho ⟨h1, by omega⟩ hp hs
    have L : ∀ (c : Nat) (p : Int) (s : TS), 0 ≤ p → p + c ≤ 6 → tsB s → tsB (gL (fun q s => gG a n (m + 1) (fu f m q) (used + 2 ^ q.toNat) s) (gok a f m used) c p s) ∧ s.1 ≤ (gL (fun q s => gG a n (m + 1) (fu f m q) (used + 2 ^ q.toNat) s) (gok a f m used) c p s).1 ∧ (gL (fun q s => gG a n (m + 1) (fu f m q) (used + 2 ^ q.toNat) s) (gok a f m used) c p s).1 ≤ s.1 + (c : Int) * 7 ^ n := by
      intro c
      induction c with
      | zero => intro p s _ _ hs; exact ⟨hs, Int.le_refl _, by show s.1 ≤ s.1 + ((0 : Nat) : Int) * 7 ^ n; omega⟩
      | succ c ih2 =>
        intro p s q1 q2 hs
        have e : ((c + 1 : Nat) : Int) * 7 ^ n = (c : Int) * 7 ^ n + 7 ^ n := by rw [Int.natCast_succ, Int.add_mul, Int.one_mul]
        unfold gL
        rw [e]
        by_cases g : gok a f m used p = true
        · simp only [if_pos g]
          have i1 := ih (m + 1) (fu f m p) (used + 2 ^ p.toNat) s (by omega) (by omega) (fu_p ⟨q1, by omega⟩ hp) hs
          have i2 := ih2 (p + 1) _ (by omega) (by omega) i1.1
          exact ⟨i2.1, by omega, by omega⟩
        · simp only [if_neg g]
          have i2 := ih2 (p + 1) s (by omega) (by omega) hs
          exact ⟨i2.1, by omega, by omega⟩
    unfold gG
    have l := L (a 2 - (f 0 + 1)).toNat (f 0 + 1) (clz a f m s) (by omega) (by omega) cb.1
    have e : (((a 2 - (f 0 + 1)).toNat : Nat) : Int) * 7 ^ n ≤ 6 * 7 ^ n := Int.mul_le_mul_of_nonneg_right (by omega) (by omega)
    exact ⟨l.1, by omega, by omega⟩
def RgR (σ : Mem) (s : TS) : Prop := σ 12 0 26 = s.1 ∧ σ 12 0 27 = s.2.1 ∧ σ 12 0 28 = s.2.2.1 ∧ ∀ i : Int, 0 ≤ i → i < s.2.1 → σ 54 0 i.toNat = s.2.2.2 i
theorem push_d : ∀ s : Fin 64, ∀ p : Fin 6, (s.val : Int) / 2 ^ p.val % 2 = 0 → (0 ≤ (s.val : Int) + 2 ^ p.val ∧ (s.val : Int) + 2 ^ p.val < 64 ∧ pcz ((s.val : Int) + 2 ^ p.val) = pcz (s.val : Int) + 1 ∧ ior (s.val : Int) (2 ^ p.val) = (s.val : Int) + 2 ^ p.val) := by decide +kernel
theorem push_s {s p : Int} (hs : 0 ≤ s ∧ s < 64) (hp : 0 ≤ p ∧ p < 6) (hb : s / 2 ^ p.toNat % 2 = 0) : (0 ≤ s + 2 ^ p.toNat ∧ s + 2 ^ p.toNat < 64) ∧ pcz (s + 2 ^ p.toNat) = pcz s + 1 ∧ ior s (2 ^ p.toNat) = s + 2 ^ p.toNat := by
  have h := push_d ⟨s.toNat, by omega⟩ ⟨p.toNat, by omega⟩
  have e : ((s.toNat : Nat) : Int) = s := by omega
  simp only [e] at h
  obtain ⟨h1, h2, h3, h4⟩ := h hb
  exact ⟨⟨h1, h2⟩, h3, h4⟩
section RINGR
variable {d : Nat} {a : BV}
set_option maxRecDepth 4000 in
theorem q_laysRing {σ : Mem} {K : Option AV → Mem → Prop} {m : Int} {f : Int → Int} {s : TS} (ho : OkA a) (h44 : σ 44 0 = a) (hm : 2 ≤ m ∧ m ≤ 6) (h21 : σ 12 0 21 = m) (hf : ∀ k : Int, 0 ≤ k → k < m → σ 52 0 k.toNat = f k) (hp : ∀ k : Int, 0 ≤ k → k < m → 0 ≤ f k ∧ f k < 6) (hs : tsB s) (hs2 : s.1 < 2147483647) (hr : RgR σ s) (hK : ∀ σ', eqx [12, 54] σ σ' → k12 σ σ' → σ' 12 0 21 = m → RgR σ' (lay a f m s) → K none σ') : Ev (d + 3) 271 [mo] σ K := by
  obtain ⟨s1, s2, s3, s4⟩ := s
  obtain ⟨r1, r2, r3, r4⟩ := hr
  have r1 : σ 12 0 26 = s1 := r1
  have r2 : σ 12 0 27 = s2 := r2
  have r3 : σ 12 0 28 = s3 := r3
  have r4 : ∀ i : Int, 0 ≤ i → i < s2 → σ 54 0 i.toNat = s4 i := r4
  have hs : 0 ≤ s1 ∧ (0 ≤ s2 ∧ s2 ≤ 6) ∧ 0 ≤ s3 ∧ s3 ≤ 594 := hs
  have hs2 : s1 < 2147483647 := hs2
  have lm := lsr_m ho hm hp
  have lb := lsr_b ho hm hp
  generalize hτ : mu σ 12 0 26 (s1 + 1) = τ
  have xτ : eqx [12, 54] σ τ := by rw [← hτ]; exact eqx_mu eqx.rf (by decide)
  have kτ : k12 σ τ := by rw [← hτ]; exact k12.mu k12.rf (by decide)
  have t26 : τ 12 0 26 = s1 + 1 := by rw [← hτ, mu_at, if_pos rfl]
  have t27 : τ 12 0 27 = s2 := by rw [← hτ, mu_at, if_neg (by decide)]; exact r2
  have t28 : τ 12 0 28 = s3 := by rw [← hτ, mu_at, if_neg (by decide)]; exact r3
  have t21 : τ 12 0 21 = m := by rw [← hτ, mu_at, if_neg (by decide)]; exact h21
  have t52 : ∀ k : Int, 0 ≤ k → k < m → τ 52 0 k.toNat = f k := fun k x y => by rw [xτ 52 (by decide)]; exact hf k x y
  have t54 : τ 54 = σ 54 := by rw [← hτ, mu_k (by decide)]
  have t44 : τ 44 0 = a := by rw [xτ 44 (by decide)]; exact h44
  refine e_X12_laysRing (Nat.le_of_ble_eq_true rfl) ?_
  simp only [wp_c, st_iload, st_lload, st_aload, st_istore, st_lstore, st_astore, st_iinc, st_sipush, st_jsr_w, st_goto, st_jsr, st_goto_w, st_if_icmp, st_ifCond, st_iadd, st_isub, st_imul, st_idiv, st_irem, st_iand, st_ior, st_ixor, st_ishl, st_ishr, st_iushr, st_ladd, st_lsub, st_lmul, st_ldiv, st_lrem, st_land, st_lor, st_lshl, st_lshr, st_i2l, st_l2i, st_i2b, st_i2s, st_i2c, st_lcmp, st_dup, st_pop, st_dup2, st_pop2, st_getfield, st_getstatic, st_checkcast, st_instanceof, st_putfield, st_putstatic, st_dstore, st_iaload, st_baload, st_laload, st_aaload, st_iastore, st_bastore, st_lastore, st_arraylength, st_dcmpg, st_dcmpl, st_fcmpg, st_fcmpl, st_monitorenter, st_tableswitch, st_multianewarray, st_invokeinterface, st_ireturn, st_lreturn, st_return_, st_ldc, st_ldc_w, st_ldc2_w, st_freturn, st_invokevirtual, st_anewarray0, st_anewarray1, st_anewarray2, st_anewarray3, st_anewarray4, st_anewarray5, st_lookupswitch, popI_c, popL_c, popR_c, popV_c, getI_c, getL_c, getR_c, lg_z, lg_s, ls1_z, ls1_o, ls1_s, ls2_z, ls2_o, ls2_s, noL_i, noL_l, noL_r, isL_i, isL_l, isL_r, tk_z, tk_s, psh_n, psh_s, ent_e, entL_n, entL_c, cc_eq, cc_ne, cc_lt, cc_ge, cc_gt, cc_le, swt_n, swt_c, lsw_n, lsw_c, mPs, NSTR_e, akds, alens, cnts, arfs, inb_e, lcm_lt, lcm_gt, lcm_ge, lcm_le, lcm_eq, lcm_a, lcm_b, Int.reduceToNat, Nat.reduceDiv, Nat.reduceMod, Nat.reduceMul, Nat.reduceAdd, Nat.reduceSub, Nat.reduceLT, Nat.reduceLeDiff, Nat.reduceEqDiff, Int.reduceNeg, Int.reduceAdd, Nat.one_mul, Nat.zero_mul, Nat.add_zero, Nat.zero_add, if_true, if_false, eq_self, true_and, and_true, true_or, or_true, false_or, or_false, List.length_cons, List.length_nil, List.cons_append, List.nil_append, List.replicate_zero, List.replicate_succ, Nat.lt_irrefl, reduceCtorEq, Bool.false_eq_true, in32, in64, Int.reduceLE, Int.reduceLT, Int.reduceEq, Int.reduceNe, not_true_eq_false, not_false_eq_true, true_implies, false_implies, implies_true, false_and, and_false, and_self, b_X12_laysRing, r_X12_laysRing, r1, hτ]
  (repeat' with_reducible first | apply And.intro | intro _)
  all_goals try omega
  refine q_leastOf (m := m) (f := f) (by rw [t44]; exact ho) t21 hm t52 hp ?_
  rw [t44, show lst (rg a f m) m.toNat 0 268435456 = lsr a f m from rfl]
  generalize hx : lsr a f m * m = x at lm
  by_cases c : s3 < x
  · have fin : ∀ σ', eqx [12, 54] σ σ' → k12 σ σ' → σ' 12 0 21 = m → σ' 12 0 26 = s1 + 1 → σ' 12 0 27 = m → σ' 12 0 28 = x → (∀ i : Int, 0 ≤ i → i < m → σ' 54 0 i.toNat = f i) → K none σ' := fun σ' y1 y2 y3 y4 y5 y6 y7 => by
      refine hK σ' y1 y2 y3 ?_
      unfold RgR lay
      simp only [hx, if_pos c]
      exact ⟨y4, y5, y6, y7⟩
    have t21' : mu τ 12 0 28 x 12 0 21 = m := by rw [mu_at, if_neg (by decide)]; exact t21
    simp only [wp_c, st_iload, st_lload, st_aload, st_istore, st_lstore, st_astore, st_iinc, st_sipush, st_jsr_w, st_goto, st_jsr, st_goto_w, st_if_icmp, st_ifCond, st_iadd, st_isub, st_imul, st_idiv, st_irem, st_iand, st_ior, st_ixor, st_ishl, st_ishr, st_iushr, st_ladd, st_lsub, st_lmul, st_ldiv, st_lrem, st_land, st_lor, st_lshl, st_lshr, st_i2l, st_l2i, st_i2b, st_i2s, st_i2c, st_lcmp, st_dup, st_pop, st_dup2, st_pop2, st_getfield, st_getstatic, st_checkcast, st_instanceof, st_putfield, st_putstatic, st_dstore, st_iaload, st_baload, st_laload, st_aaload, st_iastore, st_bastore, st_lastore, st_arraylength, st_dcmpg, st_dcmpl, st_fcmpg, st_fcmpl, st_monitorenter, st_tableswitch, st_multianewarray, st_invokeinterface, st_ireturn, st_lreturn, st_return_, st_ldc, st_ldc_w, st_ldc2_w, st_freturn, st_invokevirtual, st_anewarray0, st_anewarray1, st_anewarray2, st_anewarray3, st_anewarray4, st_anewarray5, st_lookupswitch, popI_c, popL_c, popR_c, popV_c, getI_c, getL_c, getR_c, lg_z, lg_s, ls1_z, ls1_o, ls1_s, ls2_z, ls2_o, ls2_s, noL_i, noL_l, noL_r, isL_i, isL_l, isL_r, tk_z, tk_s, psh_n, psh_s, ent_e, entL_n, entL_c, cc_eq, cc_ne, cc_lt, cc_ge, cc_gt, cc_le, swt_n, swt_c, lsw_n, lsw_c, mPs, NSTR_e, akds, alens, cnts, arfs, inb_e, lcm_lt, lcm_gt, lcm_ge, lcm_le, lcm_eq, lcm_a, lcm_b, Int.reduceToNat, Nat.reduceDiv, Nat.reduceMod, Nat.reduceMul, Nat.reduceAdd, Nat.reduceSub, Nat.reduceLT, Nat.reduceLeDiff, Nat.reduceEqDiff, Int.reduceNeg, Int.reduceAdd, Nat.one_mul, Nat.zero_mul, Nat.add_zero, Nat.zero_add, if_true, if_false, eq_self, true_and, and_true, true_or, or_true, false_or, or_false, List.length_cons, List.length_nil, List.cons_append, List.nil_append, List.replicate_zero, List.replicate_succ, Nat.lt_irrefl, reduceCtorEq, Bool.false_eq_true, in32, in64, Int.reduceLE, Int.reduceLT, Int.reduceEq, Int.reduceNe, not_true_eq_false, not_false_eq_true, true_implies, false_implies, implies_true, false_and, and_false, and_self, b_X12_laysRing, r_X12_laysRing, t21, t28, hx, t21']
    (repeat' with_reducible first | apply And.intro | intro _)
    all_goals try omega
    refine loop_up (S := Mem) (I := fun z τ' => 0 ≤ z ∧ eqx [54] (mu (mu τ 12 0 28 x) 12 0 27 m) τ' ∧ ∀ i : Int, 0 ≤ i → i < z → τ' 54 0 i.toNat = f i) (G := fun z τ' => Rn (d + 3) 271 44 [mo, .inl x, .inl z] [] τ' K) (P := m) ?_ ?_ 0 _ (by omega) ⟨Int.le_refl _, eqx.rf, fun i a b => by omega⟩
    · rintro τ' ⟨c1, c2, c3⟩
      have g : ∀ k : Nat, τ' 12 0 k = if k = 27 then m else if k = 28 then x else τ 12 0 k := fun k => by rw [c2 12 (by decide), mu_at, mu_at]
      have g21 : τ' 12 0 21 = m := by rw [g, if_neg (by decide), if_neg (by decide)]; exact t21
      have := fin τ' (((eqx_mu (eqx_mu xτ (by decide)) (by decide)).tr (c2.wd (by decide)))) ((k12.mu (k12.mu kτ (by decide)) (by decide)).x c2 (by decide)) g21 (by rw [g, if_neg (by decide), if_neg (by decide)]; exact t26) (by rw [g, if_pos rfl]) (by rw [g, if_neg (by decide), if_pos rfl]) c3
      refine l_X12_laysRing_44 ?_
      simp only [wp_c, st_iload, st_lload, st_aload, st_istore, st_lstore, st_astore, st_iinc, st_sipush, st_jsr_w, st_goto, st_jsr, st_goto_w, st_if_icmp, st_ifCond, st_iadd, st_isub, st_imul, st_idiv, st_irem, st_iand, st_ior, st_ixor, st_ishl, st_ishr, st_iushr, st_ladd, st_lsub, st_lmul, st_ldiv, st_lrem, st_land, st_lor, st_lshl, st_lshr, st_i2l, st_l2i, st_i2b, st_i2s, st_i2c, st_lcmp, st_dup, st_pop, st_dup2, st_pop2, st_getfield, st_getstatic, st_checkcast, st_instanceof, st_putfield, st_putstatic, st_dstore, st_iaload, st_baload, st_laload, st_aaload, st_iastore, st_bastore, st_lastore, st_arraylength, st_dcmpg, st_dcmpl, st_fcmpg, st_fcmpl, st_monitorenter, st_tableswitch, st_multianewarray, st_invokeinterface, st_ireturn, st_lreturn, st_return_, st_ldc, st_ldc_w, st_ldc2_w, st_freturn, st_invokevirtual, st_anewarray0, st_anewarray1, st_anewarray2, st_anewarray3, st_anewarray4, st_anewarray5, st_lookupswitch, popI_c, popL_c, popR_c, popV_c, getI_c, getL_c, getR_c, lg_z, lg_s, ls1_z, ls1_o, ls1_s, ls2_z, ls2_o, ls2_s, noL_i, noL_l, noL_r, isL_i, isL_l, isL_r, tk_z, tk_s, psh_n, psh_s, ent_e, entL_n, entL_c, cc_eq, cc_ne, cc_lt, cc_ge, cc_gt, cc_le, swt_n, swt_c, lsw_n, lsw_c, mPs, NSTR_e, akds, alens, cnts, arfs, inb_e, lcm_lt, lcm_gt, lcm_ge, lcm_le, lcm_eq, lcm_a, lcm_b, Int.reduceToNat, Nat.reduceDiv, Nat.reduceMod, Nat.reduceMul, Nat.reduceAdd, Nat.reduceSub, Nat.reduceLT, Nat.reduceLeDiff, Nat.reduceEqDiff, Int.reduceNeg, Int.reduceAdd, Nat.one_mul, Nat.zero_mul, Nat.add_zero, Nat.zero_add, if_true, if_false, eq_self, true_and, and_true, true_or, or_true, false_or, or_false, List.length_cons, List.length_nil, List.cons_append, List.nil_append, List.replicate_zero, List.replicate_succ, Nat.lt_irrefl, reduceCtorEq, Bool.false_eq_true, in32, in64, Int.reduceLE, Int.reduceLT, Int.reduceEq, Int.reduceNe, not_true_eq_false, not_false_eq_true, true_implies, false_implies, implies_true, false_and, and_false, and_self, b_X12_laysRing, r_X12_laysRing, h_X12_laysRing_44, g21]
      (repeat' with_reducible first | apply And.intro | intro _)
      all_goals try omega
      all_goals exact this
    · rintro z τ' hz ⟨c1, c2, c3⟩ ih
      have g21 : τ' 12 0 21 = m := by rw [c2 12 (by decide), mu_at, if_neg (by decide), mu_at, if_neg (by decide)]; exact t21
      have g52 : τ' 52 0 z.toNat = f z := by rw [c2 52 (by decide), mu_k (by decide), mu_k (by decide)]; exact t52 z c1 hz
      refine l_X12_laysRing_44 ?_
      simp only [wp_c, st_iload, st_lload, st_aload, st_istore, st_lstore, st_astore, st_iinc, st_sipush, st_jsr_w, st_goto, st_jsr, st_goto_w, st_if_icmp, st_ifCond, st_iadd, st_isub, st_imul, st_idiv, st_irem, st_iand, st_ior, st_ixor, st_ishl, st_ishr, st_iushr, st_ladd, st_lsub, st_lmul, st_ldiv, st_lrem, st_land, st_lor, st_lshl, st_lshr, st_i2l, st_l2i, st_i2b, st_i2s, st_i2c, st_lcmp, st_dup, st_pop, st_dup2, st_pop2, st_getfield, st_getstatic, st_checkcast, st_instanceof, st_putfield, st_putstatic, st_dstore, st_iaload, st_baload, st_laload, st_aaload, st_iastore, st_bastore, st_lastore, st_arraylength, st_dcmpg, st_dcmpl, st_fcmpg, st_fcmpl, st_monitorenter, st_tableswitch, st_multianewarray, st_invokeinterface, st_ireturn, st_lreturn, st_return_, st_ldc, st_ldc_w, st_ldc2_w, st_freturn, st_invokevirtual, st_anewarray0, st_anewarray1, st_anewarray2, st_anewarray3, st_anewarray4, st_anewarray5, st_lookupswitch, popI_c, popL_c, popR_c, popV_c, getI_c, getL_c, getR_c, lg_z, lg_s, ls1_z, ls1_o, ls1_s, ls2_z, ls2_o, ls2_s, noL_i, noL_l, noL_r, isL_i, isL_l, isL_r, tk_z, tk_s, psh_n, psh_s, ent_e, entL_n, entL_c, cc_eq, cc_ne, cc_lt, cc_ge, cc_gt, cc_le, swt_n, swt_c, lsw_n, lsw_c, mPs, NSTR_e, akds, alens, cnts, arfs, inb_e, lcm_lt, lcm_gt, lcm_ge, lcm_le, lcm_eq, lcm_a, lcm_b, Int.reduceToNat, Nat.reduceDiv, Nat.reduceMod, Nat.reduceMul, Nat.reduceAdd, Nat.reduceSub, Nat.reduceLT, Nat.reduceLeDiff, Nat.reduceEqDiff, Int.reduceNeg, Int.reduceAdd, Nat.one_mul, Nat.zero_mul, Nat.add_zero, Nat.zero_add, if_true, if_false, eq_self, true_and, and_true, true_or, or_true, false_or, or_false, List.length_cons, List.length_nil, List.cons_append, List.nil_append, List.replicate_zero, List.replicate_succ, Nat.lt_irrefl, reduceCtorEq, Bool.false_eq_true, in32, in64, Int.reduceLE, Int.reduceLT, Int.reduceEq, Int.reduceNe, not_true_eq_false, not_false_eq_true, true_implies, false_implies, implies_true, false_and, and_false, and_self, b_X12_laysRing, r_X12_laysRing, h_X12_laysRing_44, g21, g52]
      (repeat' with_reducible first | apply And.intro | intro _)
      all_goals try omega
      refine ih _ ⟨by omega, eqx_mu c2 (by decide), fun i x y => ?_⟩
      rw [mu_at]
      by_cases ci : i = z
      · rw [if_pos (by rw [ci]), ci]
      · rw [if_neg (by omega)]
        exact c3 i x (by omega)
  · have := hK τ xτ kτ t21 (by
      unfold RgR lay
      simp only [hx, if_neg c]
      exact ⟨t26, t27, t28, fun i x y => by rw [t54]; exact r4 i x y⟩)
    simp only [wp_c, st_iload, st_lload, st_aload, st_istore, st_lstore, st_astore, st_iinc, st_sipush, st_jsr_w, st_goto, st_jsr, st_goto_w, st_if_icmp, st_ifCond, st_iadd, st_isub, st_imul, st_idiv, st_irem, st_iand, st_ior, st_ixor, st_ishl, st_ishr, st_iushr, st_ladd, st_lsub, st_lmul, st_ldiv, st_lrem, st_land, st_lor, st_lshl, st_lshr, st_i2l, st_l2i, st_i2b, st_i2s, st_i2c, st_lcmp, st_dup, st_pop, st_dup2, st_pop2, st_getfield, st_getstatic, st_checkcast, st_instanceof, st_putfield, st_putstatic, st_dstore, st_iaload, st_baload, st_laload, st_aaload, st_iastore, st_bastore, st_lastore, st_arraylength, st_dcmpg, st_dcmpl, st_fcmpg, st_fcmpl, st_monitorenter, st_tableswitch, st_multianewarray, st_invokeinterface, st_ireturn, st_lreturn, st_return_, st_ldc, st_ldc_w, st_ldc2_w, st_freturn, st_invokevirtual, st_anewarray0, st_anewarray1, st_anewarray2, st_anewarray3, st_anewarray4, st_anewarray5, st_lookupswitch, popI_c, popL_c, popR_c, popV_c, getI_c, getL_c, getR_c, lg_z, lg_s, ls1_z, ls1_o, ls1_s, ls2_z, ls2_o, ls2_s, noL_i, noL_l, noL_r, isL_i, isL_l, isL_r, tk_z, tk_s, psh_n, psh_s, ent_e, entL_n, entL_c, cc_eq, cc_ne, cc_lt, cc_ge, cc_gt, cc_le, swt_n, swt_c, lsw_n, lsw_c, mPs, NSTR_e, akds, alens, cnts, arfs, inb_e, lcm_lt, lcm_gt, lcm_ge, lcm_le, lcm_eq, lcm_a, lcm_b, Int.reduceToNat, Nat.reduceDiv, Nat.reduceMod, Nat.reduceMul, Nat.reduceAdd, Nat.reduceSub, Nat.reduceLT, Nat.reduceLeDiff, Nat.reduceEqDiff, Int.reduceNeg, Int.reduceAdd, Nat.one_mul, Nat.zero_mul, Nat.add_zero, Nat.zero_add, if_true, if_false, eq_self, true_and, and_true, true_or, or_true, false_or, or_false, List.length_cons, List.length_nil, List.cons_append, List.nil_append, List.replicate_zero, List.replicate_succ, Nat.lt_irrefl, reduceCtorEq, Bool.false_eq_true, in32, in64, Int.reduceLE, Int.reduceLT, Int.reduceEq, Int.reduceNe, not_true_eq_false, not_false_eq_true, true_implies, false_implies, implies_true, false_and, and_false, and_self, b_X12_laysRing, r_X12_laysRing, t21, t28, hx]
    (repeat' with_reducible first | apply And.intro | intro _)
    all_goals try omega
    all_goals exact this
end RINGR
