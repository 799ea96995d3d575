/-! 9m: the reference's tokens, by places -/
abbrev Tst : Type := Int ⊕ (Int × Int)
section RTOK
variable {d : Nat} {σ σ' : Mem} {K : Option AV → Mem → Prop} {T : Int → Int} {L s v : Int}
noncomputable def pK (T : Int → Int) (L v : Int) (r : Tst) : Tst := match r with
  | .inl s => if lxK T L s = v then .inl (nxs T L s) else .inr (flt T L s, s)
  | .inr e => .inr e
noncomputable def pN (T : Int → Int) (L lo hi : Int) (r : Tst) : Tst := match r with
  | .inl s => if lxK T L s = 24 then (if lo ≤ tnm T L s ∧ tnm T L s ≤ hi then .inl (nxs T L s) else .inr (3, s)) else .inr (flt T L s, s)
  | .inr e => .inr e
def vlT (T : Int → Int) (L : Int) (r : Tst) : Int := match r with
  | .inl s => tnm T L s
  | .inr _ => 0
theorem pK_inv {r : Tst} {s' : Int} (h : pK T L v r = .inl s') : ∃ s, r = .inl s ∧ lxK T L s = v ∧ s' = nxs T L s := by
  rcases r with s | e
  · unfold pK at h
    simp only at h
    split at h
    · exact ⟨s, rfl, by assumption, (Sum.inl.inj h).symm⟩
    · cases h
  · cases h
theorem pN_inv {lo hi : Int} {r : Tst} {s' : Int} (h : pN T L lo hi r = .inl s') : ∃ s, r = .inl s ∧ lxK T L s = 24 ∧ (lo ≤ tnm T L s ∧ tnm T L s ≤ hi) ∧ s' = nxs T L s := by
  rcases r with s | e
  · unfold pN at h
    simp only at h
    split at h
    · split at h
      · exact ⟨s, rfl, by assumption, by assumption, (Sum.inl.inj h).symm⟩
      · cases h
    · cases h
  · cases h
theorem pK_p (h : lxK T L s = v) : pK T L v (.inl s) = .inl (nxs T L s) := by
  show (if lxK T L s = v then _ else _) = _
  rw [if_pos h]
theorem pK_n (h : ¬ lxK T L s = v) : pK T L v (.inl s) = .inr (flt T L s, s) := by
  show (if lxK T L s = v then _ else _) = _
  rw [if_neg h]
theorem pN_p {lo hi : Int} (h : lxK T L s = 24) (h2 : lo ≤ tnm T L s ∧ tnm T L s ≤ hi) : pN T L lo hi (.inl s) = .inl (nxs T L s) := by
  show (if lxK T L s = 24 then _ else _) = _
  rw [if_pos h, if_pos h2]
theorem pN_n {lo hi : Int} (h : ¬ lxK T L s = 24) : pN T L lo hi (.inl s) = .inr (flt T L s, s) := by
  show (if lxK T L s = 24 then _ else _) = _
  rw [if_neg h]
theorem pN_3 {lo hi : Int} (h : lxK T L s = 24) (h2 : ¬ (lo ≤ tnm T L s ∧ tnm T L s ≤ hi)) : pN T L lo hi (.inl s) = .inr (3, s) := by
  show (if lxK T L s = 24 then _ else _) = _
  rw [if_pos h, if_neg h2]
/-- the reference stands at the token at s -/
def atR (σ : Mem) (T : Int → Int) (L s : Int) : Prop := σ 12 0 6 = s ∧ σ 12 0 7 = lxE T L s ∧ σ 12 0 9 = lxK T L s ∧ in32 (σ 12 0 10) ∧ (lxK T L s = 24 → σ 12 0 10 = tnm T L s)
def okR (σ : Mem) (T : Int → Int) (L s : Int) : Prop := tpR σ L T ∧ atR σ T L s ∧ (0 ≤ s ∧ s ≤ L) ∧ σ 12 0 11 = 0
def faR (σ : Mem) (T : Int → Int) (L f q : Int) : Prop := tpR σ L T ∧ (∃ s, (0 ≤ s ∧ s ≤ L) ∧ atR σ T L s) ∧ σ 12 0 11 = f ∧ σ 12 0 12 = q ∧ ¬ f = 0 ∧ in32 f
def rst (σ : Mem) (T : Int → Int) (L : Int) (r : Tst) : Prop := match r with
  | .inl s => okR σ T L s
  | .inr e => faR σ T L e.1 e.2
/-- what the reading of tokens changes -/
def nfw (σ σ' : Mem) : Prop := eqx [12] σ σ' ∧ ∀ k : Nat, ¬ (k = 6 ∨ k = 7 ∨ k = 9 ∨ k = 10 ∨ k = 11 ∨ k = 12) → σ' 12 0 k = σ 12 0 k
theorem nfw.rf : nfw σ σ := ⟨eqx.rf, fun _ _ => rfl⟩
theorem nfw.tr {σ σ1 σ2 : Mem} (h : nfw σ σ1) (h2 : nfw σ1 σ2) : nfw σ σ2 := ⟨h.1.tr h2.1, fun k hk => (h2.2 k hk).trans (h.2 k hk)⟩
theorem nfr.w (h : nfr σ σ') : nfw σ σ' := ⟨h.1, fun k hk => h.2 k (fun x => hk (by omega))⟩
theorem tpR.w (h : tpR σ L T) (x : nfw σ σ') : tpR σ' L T := ⟨(x.2 8 (by omega)).trans h.1, h.2.1, fun i a b => by rw [x.1 46 (by decide)]; exact h.2.2.1 i a b, h.2.2.2⟩
theorem r_next (h : okR σ T L s) (hK : ∀ σ', nfr σ σ' → okR σ' T L (nxs T L s) → K none σ') : Ev (d + 6) 163 [mo] σ K := by
  obtain ⟨ht, ⟨a6, a7, a9, a10, a11⟩, hs, hf⟩ := h
  have eb := lxE_b (T := T) hs
  refine q_next (p := lxE T L s) ⟨by omega, eb.2.1⟩ a7 ht.1 ht.2.1.2 ht.2.2.1 ht.2.2.2 (fun σ1 x1 g6 g7 g9 g10 => ?_)
  have nb := nxs_b (T := T) hs
  refine hK σ1 x1 ⟨ht.w x1.w, ⟨g6, g7, g9, ?_, fun c => ?_⟩, ⟨by omega, nb.2.1⟩, (x1.2 11 (by omega)).trans hf⟩
  · rw [g10]; exact lxN_b a10
  · rw [g10]; exact lxN_24 c
theorem r_is (h : okR σ T L s) (hv : in32 v) (hY : lxK T L s = v → K (some (.inl 1)) σ) (hN : ¬ lxK T L s = v → K (some (.inl 0)) σ) : Ev (d + 1) 169 [mo, .inl v] σ K := by
  obtain ⟨ht, ⟨a6, a7, a9, a10, a11⟩, hs, hf⟩ := h
  exact q_is a9 hf lxK_32 ⟨by decide, by decide⟩ hv (fun c => hY c.2) (fun c => hN (fun x => c ⟨rfl, x⟩))
theorem r_isX {f q : Int} (h : faR σ T L f q) (hv : in32 v) (hK : K (some (.inl 0)) σ) : Ev (d + 1) 169 [mo, .inl v] σ K := by
  obtain ⟨ht, ⟨s, hs, a6, a7, a9, a10, a11⟩, h11, h12, h0, h32⟩ := h
  exact q_is a9 h11 lxK_32 h32 hv (fun c => absurd c.1 h0) (fun _ => hK)
theorem r_eats (h : okR σ T L s) (hv : in32 v) (hY : lxK T L s = v → ∀ σ', nfr σ σ' → okR σ' T L (nxs T L s) → K (some (.inl 1)) σ') (hN : ¬ lxK T L s = v → K (some (.inl 0)) σ) : Ev (d + 7) 168 [mo, .inl v] σ K := by
  obtain ⟨ht, ⟨a6, a7, a9, a10, a11⟩, hs, hf⟩ := h
  have eb := lxE_b (T := T) hs
  refine q_eats (p := lxE T L s) ht a7 ⟨by omega, eb.2.1⟩ a9 hf lxK_32 ⟨by decide, by decide⟩ hv (fun c σ1 x1 g6 g7 g9 g10 => ?_) (fun c => hN (fun x => c ⟨rfl, x⟩))
  have nb := nxs_b (T := T) hs
  refine hY c.2 σ1 x1 ⟨ht.w x1.w, ⟨g6, g7, g9, ?_, fun c => ?_⟩, ⟨by omega, nb.2.1⟩, (x1.2 11 (by omega)).trans hf⟩
  · rw [g10]; exact lxN_b a10
  · rw [g10]; exact lxN_24 c
theorem r_eatsX {f q : Int} (h : faR σ T L f q) (hv : in32 v) (hK : K (some (.inl 0)) σ) : Ev (d + 7) 168 [mo, .inl v] σ K := by
  obtain ⟨ht, ⟨s, hs, a6, a7, a9, a10, a11⟩, h11, h12, h0, h32⟩ := h
  have eb := lxE_b (T := T) hs
  exact q_eats (p := lxE T L s) ht a7 ⟨by omega, eb.2.1⟩ a9 h11 lxK_32 h32 hv (fun c => absurd c.1 h0) (fun _ => hK)
theorem r_fails {w : Int} (h : okR σ T L s) (hv : in32 v) (hw : (if lxK T L s = 26 then 1 else v) = w) (hw0 : ¬ w = 0) (hK : ∀ σ', nfw σ σ' → faR σ' T L w s → K none σ') : Ev (d + 1) 170 [mo, .inl v] σ K := by
  obtain ⟨ht, ⟨a6, a7, a9, a10, a11⟩, hs, hf⟩ := h
  refine q_fails a9 hf a6 lxK_32 ⟨by decide, by decide⟩ hv (fun x => absurd rfl x) (fun _ => ?_)
  rw [hw]
  have w32 : in32 w := by
    rw [← hw]
    split
    · exact ⟨by decide, by decide⟩
    · exact hv
  have x : nfw σ (mu (mu σ 12 0 11 w) 12 0 12 s) := ⟨eqx_mu (eqx_mu eqx.rf (by decide)) (by decide), fun k hk => by rw [mu_at, if_neg (by omega), mu_at, if_neg (by omega)]⟩
  have e : ∀ k : Nat, ¬ (k = 11 ∨ k = 12) → mu (mu σ 12 0 11 w) 12 0 12 s 12 0 k = σ 12 0 k := fun k hk => by rw [mu_at, if_neg (by omega), mu_at, if_neg (by omega)]
  refine hK _ x ⟨ht.w x, ⟨s, hs, ?_, ?_, ?_, ?_, ?_⟩, ?_, ?_, hw0, w32⟩
  · rw [e 6 (by omega)]; exact a6
  · rw [e 7 (by omega)]; exact a7
  · rw [e 9 (by omega)]; exact a9
  · rw [e 10 (by omega)]; exact a10
  · rw [e 10 (by omega)]; exact a11
  · rw [mu_at, if_neg (by decide), mu_at, if_pos rfl]
  · rw [mu_at, if_pos rfl]
theorem r_fails2 (h : okR σ T L s) (hK : ∀ σ', nfw σ σ' → faR σ' T L (flt T L s) s → K none σ') : Ev (d + 1) 170 [mo, .inl 2] σ K := r_fails (w := flt T L s) h ⟨by decide, by decide⟩ rfl (by have := flt_b (T := T) (L := L) (s := s); omega) hK
theorem r_failsX {f q : Int} (h : faR σ T L f q) (hv : in32 v) (hK : K none σ) : Ev (d + 1) 170 [mo, .inl v] σ K := by
  obtain ⟨ht, ⟨s, hs, a6, a7, a9, a10, a11⟩, h11, h12, h0, h32⟩ := h
  exact q_fails a9 h11 a6 lxK_32 h32 hv (fun _ => hK) (fun x => absurd x h0)
/-- takes, whether it has failed or not -/
theorem r_takes {lo hi : Int} {r : Tst} (h : rst σ T L r) (hl : in32 lo) (hh : in32 hi) (hK : ∀ (σ' : Mem) (n : Int), nfw σ σ' → rst σ' T L (pN T L lo hi r) → in32 n → (∀ s, r = .inl s → lxK T L s = 24 → n = tnm T L s) → K (some (.inl n)) σ') : Ev (d + 7) 171 [mo, .inl lo, .inl hi] σ K := by
  rcases r with s | ⟨f, q⟩
  · obtain ⟨ht, ⟨a6, a7, a9, a10, a11⟩, hs, hf⟩ := h
    have eb := lxE_b (T := T) hs
    have nb := nxs_b (T := T) hs
    have va : ∀ s' : Int, (Sum.inl s : Tst) = .inl s' → lxK T L s' = 24 → σ 12 0 10 = tnm T L s' := fun s' x c => by rw [← Sum.inl.inj x] at c ⊢; exact a11 c
    have fa : ∀ w : Int, ¬ w = 0 → in32 w → nfw σ (mu (mu σ 12 0 11 w) 12 0 12 s) ∧ faR (mu (mu σ 12 0 11 w) 12 0 12 s) T L w s := fun w w0 w32 => by
      have x : nfw σ (mu (mu σ 12 0 11 w) 12 0 12 s) := ⟨eqx_mu (eqx_mu eqx.rf (by decide)) (by decide), fun k hk => by rw [mu_at, if_neg (by omega), mu_at, if_neg (by omega)]⟩
      have e : ∀ k : Nat, ¬ (k = 11 ∨ k = 12) → mu (mu σ 12 0 11 w) 12 0 12 s 12 0 k = σ 12 0 k := fun k hk => by rw [mu_at, if_neg (by omega), mu_at, if_neg (by omega)]
      refine ⟨x, ht.w x, ⟨s, hs, ?_, ?_, ?_, ?_, ?_⟩, ?_, ?_, w0, w32⟩
      · rw [e 6 (by omega)]; exact a6
      · rw [e 7 (by omega)]; exact a7
      · rw [e 9 (by omega)]; exact a9
      · rw [e 10 (by omega)]; exact a10
      · rw [e 10 (by omega)]; exact a11
      · rw [mu_at, if_neg (by decide), mu_at, if_pos rfl]
      · rw [mu_at, if_pos rfl]
    refine q_takes (p := lxE T L s) (v := σ 12 0 10) hl hh ht a7 ⟨by omega, eb.2.1⟩ a6 a9 rfl hf lxK_32 ⟨by decide, by decide⟩ a10 (fun x => absurd rfl x) (fun _ c => ?_) (fun _ c w => ?_) (fun _ c w σ1 x1 g6 g7 g9 g10 => ?_)
    · have hf : (if lxK T L s = 26 then (1 : Int) else 2) = flt T L s := rfl
      rw [hf]
      have hb := flt_b (T := T) (L := L) (s := s)
      obtain ⟨x, y⟩ := fa (flt T L s) (by omega) ⟨by omega, by omega⟩
      exact hK _ _ x (by rw [pN_n c]; exact y) a10 va
    · obtain ⟨x, y⟩ := fa 3 (by decide) ⟨by decide, by decide⟩
      rw [a11 c] at w
      exact hK _ _ x (by rw [pN_3 c w]; exact y) a10 va
    · have w' := w
      rw [a11 c] at w'
      refine hK _ _ x1.w ?_ a10 va
      rw [pN_p c w']
      refine ⟨ht.w x1.w, ⟨g6, g7, g9, ?_, fun c => ?_⟩, ⟨by omega, nb.2.1⟩, (x1.2 11 (by omega)).trans hf⟩
      · rw [g10]; exact lxN_b a10
      · rw [g10]; exact lxN_24 c
  · have h' := h
    obtain ⟨ht, ⟨s, hs, a6, a7, a9, a10, a11⟩, h11, h12, h0, h32⟩ := h
    have eb := lxE_b (T := T) hs
    exact q_takes (p := lxE T L s) (v := σ 12 0 10) hl hh ht a7 ⟨by omega, eb.2.1⟩ a6 a9 rfl h11 lxK_32 h32 a10 (fun _ => hK _ _ nfw.rf h' a10 (fun s' x => by cases x)) (fun x => absurd x h0) (fun x => absurd x h0) (fun x => absurd x h0)
theorem q_goesIn {e : Nat} {dp : Int} (h : okR σ T L s) (he : dp = 6 - (e : Int)) (h6 : e ≤ 6) (h26 : ¬ lxK T L s = 26) (h0 : e = 0 → ∀ σ', nfw σ σ' → faR σ' T L 4 s → K (some (.inl 0)) σ') (hS : 1 ≤ e → ∀ σ', nfr σ σ' → okR σ' T L (nxs T L s) → K (some (.inl 1)) σ') : Ev (d + 7) 183 [mo, .inl dp] σ K := by
  have h11 : σ 12 0 11 = 0 := h.2.2.2
  by_cases c : e = 0
  · refine e_X12_goesIn (Nat.le_of_ble_eq_true rfl) ?_
    simp only [wp_c, st_iload, st_lload, st_aload, st_istore, st_lstore, st_astore, st_iinc, st_sipush, st_jsr_w, st_goto, st_jsr, st_goto_w, st_if_icmp, st_ifCond, st_iadd, st_isub, st_imul, st_idiv, st_irem, st_iand, st_ior, st_ixor, st_ishl, st_ishr, st_iushr, st_ladd, st_lsub, st_lmul, st_ldiv, st_lrem, st_land, st_lor, st_lshl, st_lshr, st_i2l, st_l2i, st_i2b, st_i2s, st_i2c, st_lcmp, st_dup, st_pop, st_dup2, st_pop2, st_getfield, st_getstatic, st_checkcast, st_instanceof, st_putfield, st_putstatic, st_dstore, st_iaload, st_baload, st_laload, st_aaload, st_iastore, st_bastore, st_lastore, st_arraylength, st_dcmpg, st_dcmpl, st_fcmpg, st_fcmpl, st_monitorenter, st_tableswitch, st_multianewarray, st_invokeinterface, st_ireturn, st_lreturn, st_return_, st_ldc, st_ldc_w, st_ldc2_w, st_freturn, st_invokevirtual, st_anewarray0, st_anewarray1, st_anewarray2, st_anewarray3, st_anewarray4, st_anewarray5, st_lookupswitch, popI_c, popL_c, popR_c, popV_c, getI_c, getL_c, getR_c, lg_z, lg_s, ls1_z, ls1_o, ls1_s, ls2_z, ls2_o, ls2_s, noL_i, noL_l, noL_r, isL_i, isL_l, isL_r, tk_z, tk_s, psh_n, psh_s, ent_e, entL_n, entL_c, cc_eq, cc_ne, cc_lt, cc_ge, cc_gt, cc_le, swt_n, swt_c, lsw_n, lsw_c, mPs, NSTR_e, akds, alens, cnts, arfs, inb_e, lcm_lt, lcm_gt, lcm_ge, lcm_le, lcm_eq, lcm_a, lcm_b, Int.reduceToNat, Nat.reduceDiv, Nat.reduceMod, Nat.reduceMul, Nat.reduceAdd, Nat.reduceSub, Nat.reduceLT, Nat.reduceLeDiff, Nat.reduceEqDiff, Int.reduceNeg, Int.reduceAdd, Nat.one_mul, Nat.zero_mul, Nat.add_zero, Nat.zero_add, if_true, if_false, eq_self, true_and, and_true, true_or, or_true, false_or, or_false, List.length_cons, List.length_nil, List.cons_append, List.nil_append, List.replicate_zero, List.replicate_succ, Nat.lt_irrefl, reduceCtorEq, Bool.false_eq_true, in32, in64, Int.reduceLE, Int.reduceLT, Int.reduceEq, Int.reduceNe, not_true_eq_false, not_false_eq_true, true_implies, false_implies, implies_true, false_and, and_false, and_self, b_X12_goesIn, r_X12_goesIn]
    (repeat' with_reducible first | apply And.intro | intro _)
    all_goals try omega
    refine r_fails (w := 4) h ⟨by decide, by decide⟩ (by rw [if_neg h26]) (by decide) (fun σ1 x1 g1 => ?_)
    have := h0 c σ1 x1 g1
    have e11 : σ1 12 0 11 = 4 := g1.2.2.1
    simp only [wp_c, st_iload, st_lload, st_aload, st_istore, st_lstore, st_astore, st_iinc, st_sipush, st_jsr_w, st_goto, st_jsr, st_goto_w, st_if_icmp, st_ifCond, st_iadd, st_isub, st_imul, st_idiv, st_irem, st_iand, st_ior, st_ixor, st_ishl, st_ishr, st_iushr, st_ladd, st_lsub, st_lmul, st_ldiv, st_lrem, st_land, st_lor, st_lshl, st_lshr, st_i2l, st_l2i, st_i2b, st_i2s, st_i2c, st_lcmp, st_dup, st_pop, st_dup2, st_pop2, st_getfield, st_getstatic, st_checkcast, st_instanceof, st_putfield, st_putstatic, st_dstore, st_iaload, st_baload, st_laload, st_aaload, st_iastore, st_bastore, st_lastore, st_arraylength, st_dcmpg, st_dcmpl, st_fcmpg, st_fcmpl, st_monitorenter, st_tableswitch, st_multianewarray, st_invokeinterface, st_ireturn, st_lreturn, st_return_, st_ldc, st_ldc_w, st_ldc2_w, st_freturn, st_invokevirtual, st_anewarray0, st_anewarray1, st_anewarray2, st_anewarray3, st_anewarray4, st_anewarray5, st_lookupswitch, popI_c, popL_c, popR_c, popV_c, getI_c, getL_c, getR_c, lg_z, lg_s, ls1_z, ls1_o, ls1_s, ls2_z, ls2_o, ls2_s, noL_i, noL_l, noL_r, isL_i, isL_l, isL_r, tk_z, tk_s, psh_n, psh_s, ent_e, entL_n, entL_c, cc_eq, cc_ne, cc_lt, cc_ge, cc_gt, cc_le, swt_n, swt_c, lsw_n, lsw_c, mPs, NSTR_e, akds, alens, cnts, arfs, inb_e, lcm_lt, lcm_gt, lcm_ge, lcm_le, lcm_eq, lcm_a, lcm_b, Int.reduceToNat, Nat.reduceDiv, Nat.reduceMod, Nat.reduceMul, Nat.reduceAdd, Nat.reduceSub, Nat.reduceLT, Nat.reduceLeDiff, Nat.reduceEqDiff, Int.reduceNeg, Int.reduceAdd, Nat.one_mul, Nat.zero_mul, Nat.add_zero, Nat.zero_add, if_true, if_false, eq_self, true_and, and_true, true_or, or_true, false_or, or_false, List.length_cons, List.length_nil, List.cons_append, List.nil_append, List.replicate_zero, List.replicate_succ, Nat.lt_irrefl, reduceCtorEq, Bool.false_eq_true, in32, in64, Int.reduceLE, Int.reduceLT, Int.reduceEq, Int.reduceNe, not_true_eq_false, not_false_eq_true, true_implies, false_implies, implies_true, false_and, and_false, and_self, b_X12_goesIn, r_X12_goesIn, e11]
    (repeat' with_reducible first | apply And.intro | intro _)
    all_goals try omega
    all_goals exact this
  · refine e_X12_goesIn (Nat.le_of_ble_eq_true rfl) ?_
    simp only [wp_c, st_iload, st_lload, st_aload, st_istore, st_lstore, st_astore, st_iinc, st_sipush, st_jsr_w, st_goto, st_jsr, st_goto_w, st_if_icmp, st_ifCond, st_iadd, st_isub, st_imul, st_idiv, st_irem, st_iand, st_ior, st_ixor, st_ishl, st_ishr, st_iushr, st_ladd, st_lsub, st_lmul, st_ldiv, st_lrem, st_land, st_lor, st_lshl, st_lshr, st_i2l, st_l2i, st_i2b, st_i2s, st_i2c, st_lcmp, st_dup, st_pop, st_dup2, st_pop2, st_getfield, st_getstatic, st_checkcast, st_instanceof, st_putfield, st_putstatic, st_dstore, st_iaload, st_baload, st_laload, st_aaload, st_iastore, st_bastore, st_lastore, st_arraylength, st_dcmpg, st_dcmpl, st_fcmpg, st_fcmpl, st_monitorenter, st_tableswitch, st_multianewarray, st_invokeinterface, st_ireturn, st_lreturn, st_return_, st_ldc, st_ldc_w, st_ldc2_w, st_freturn, st_invokevirtual, st_anewarray0, st_anewarray1, st_anewarray2, st_anewarray3, st_anewarray4, st_anewarray5, st_lookupswitch, popI_c, popL_c, popR_c, popV_c, getI_c, getL_c, getR_c, lg_z, lg_s, ls1_z, ls1_o, ls1_s, ls2_z, ls2_o, ls2_s, noL_i, noL_l, noL_r, isL_i, isL_l, isL_r, tk_z, tk_s, psh_n, psh_s, ent_e, entL_n, entL_c, cc_eq, cc_ne, cc_lt, cc_ge, cc_gt, cc_le, swt_n, swt_c, lsw_n, lsw_c, mPs, NSTR_e, akds, alens, cnts, arfs, inb_e, lcm_lt, lcm_gt, lcm_ge, lcm_le, lcm_eq, lcm_a, lcm_b, Int.reduceToNat, Nat.reduceDiv, Nat.reduceMod, Nat.reduceMul, Nat.reduceAdd, Nat.reduceSub, Nat.reduceLT, Nat.reduceLeDiff, Nat.reduceEqDiff, Int.reduceNeg, Int.reduceAdd, Nat.one_mul, Nat.zero_mul, Nat.add_zero, Nat.zero_add, if_true, if_false, eq_self, true_and, and_true, true_or, or_true, false_or, or_false, List.length_cons, List.length_nil, List.cons_append, List.nil_append, List.replicate_zero, List.replicate_succ, Nat.lt_irrefl, reduceCtorEq, Bool.false_eq_true, in32, in64, Int.reduceLE, Int.reduceLT, Int.reduceEq, Int.reduceNe, not_true_eq_false, not_false_eq_true, true_implies, false_implies, implies_true, false_and, and_false, and_self, b_X12_goesIn, r_X12_goesIn, h11]
    (repeat' with_reducible first | apply And.intro | intro _)
    all_goals try omega
    refine r_next h (fun σ1 x1 g1 => ?_)
    have := hS (by omega) σ1 x1 g1
    have e11 : σ1 12 0 11 = 0 := g1.2.2.2
    simp only [wp_c, st_iload, st_lload, st_aload, st_istore, st_lstore, st_astore, st_iinc, st_sipush, st_jsr_w, st_goto, st_jsr, st_goto_w, st_if_icmp, st_ifCond, st_iadd, st_isub, st_imul, st_idiv, st_irem, st_iand, st_ior, st_ixor, st_ishl, st_ishr, st_iushr, st_ladd, st_lsub, st_lmul, st_ldiv, st_lrem, st_land, st_lor, st_lshl, st_lshr, st_i2l, st_l2i, st_i2b, st_i2s, st_i2c, st_lcmp, st_dup, st_pop, st_dup2, st_pop2, st_getfield, st_getstatic, st_checkcast, st_instanceof, st_putfield, st_putstatic, st_dstore, st_iaload, st_baload, st_laload, st_aaload, st_iastore, st_bastore, st_lastore, st_arraylength, st_dcmpg, st_dcmpl, st_fcmpg, st_fcmpl, st_monitorenter, st_tableswitch, st_multianewarray, st_invokeinterface, st_ireturn, st_lreturn, st_return_, st_ldc, st_ldc_w, st_ldc2_w, st_freturn, st_invokevirtual, st_anewarray0, st_anewarray1, st_anewarray2, st_anewarray3, st_anewarray4, st_anewarray5, st_lookupswitch, popI_c, popL_c, popR_c, popV_c, getI_c, getL_c, getR_c, lg_z, lg_s, ls1_z, ls1_o, ls1_s, ls2_z, ls2_o, ls2_s, noL_i, noL_l, noL_r, isL_i, isL_l, isL_r, tk_z, tk_s, psh_n, psh_s, ent_e, entL_n, entL_c, cc_eq, cc_ne, cc_lt, cc_ge, cc_gt, cc_le, swt_n, swt_c, lsw_n, lsw_c, mPs, NSTR_e, akds, alens, cnts, arfs, inb_e, lcm_lt, lcm_gt, lcm_ge, lcm_le, lcm_eq, lcm_a, lcm_b, Int.reduceToNat, Nat.reduceDiv, Nat.reduceMod, Nat.reduceMul, Nat.reduceAdd, Nat.reduceSub, Nat.reduceLT, Nat.reduceLeDiff, Nat.reduceEqDiff, Int.reduceNeg, Int.reduceAdd, Nat.one_mul, Nat.zero_mul, Nat.add_zero, Nat.zero_add, if_true, if_false, eq_self, true_and, and_true, true_or, or_true, false_or, or_false, List.length_cons, List.length_nil, List.cons_append, List.nil_append, List.replicate_zero, List.replicate_succ, Nat.lt_irrefl, reduceCtorEq, Bool.false_eq_true, in32, in64, Int.reduceLE, Int.reduceLT, Int.reduceEq, Int.reduceNe, not_true_eq_false, not_false_eq_true, true_implies, false_implies, implies_true, false_and, and_false, and_self, b_X12_goesIn, r_X12_goesIn, e11]
    (repeat' with_reducible first | apply And.intro | intro _)
    all_goals try omega
    all_goals exact this
end RTOK
