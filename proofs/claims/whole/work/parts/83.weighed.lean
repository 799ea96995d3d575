/-! 83: whom to weigh: mathematics, the reference -/
noncomputable def cntL (l : List (Int × Int)) (c : Int × Int → Prop) : Int := l.foldl (fun s x => s + cif (c x) 1 0) 0
noncomputable def mxL (l : List (Int × Int)) (g : Int × Int → Int) : Int := l.foldl (fun m x => imax m (g x)) 0
theorem cntL_s {l : List (Int × Int)} {c : Int × Int → Prop} {x : Int × Int} : cntL (l ++ [x]) c = cntL l c + cif (c x) 1 0 := by
  unfold cntL
  rw [List.foldl_append]
  rfl
theorem mxL_s {l : List (Int × Int)} {g : Int × Int → Int} {x : Int × Int} : mxL (l ++ [x]) g = imax (mxL l g) (g x) := by
  unfold mxL
  rw [List.foldl_append]
  rfl
theorem cntL_b {c : Int × Int → Prop} : ∀ (n : Nat) (l : List (Int × Int)), l.length = n → 0 ≤ cntL l c ∧ cntL l c ≤ l.length := by
  intro n
  induction n with
  | zero =>
    intro l h
    rw [List.length_eq_zero_iff.mp h]
    exact ⟨Int.le_refl _, Int.le_refl _⟩
  | succ n ih =>
    intro l h
    have hne : l ≠ [] := fun e => by rw [e] at h; simp at h
    have e := List.dropLast_concat_getLast hne
    have hd := ih l.dropLast (by rw [List.length_dropLast]; omega)
    rw [← e, cntL_s, List.length_append, List.length_cons, List.length_nil]
    rcases cif_c (c (l.getLast hne)) 1 0 with g | g <;> rw [g] <;> push_cast <;> omega
theorem mxL_b {g : Int × Int → Int} {hi : Int} (h0 : 0 ≤ hi) (hg : ∀ x, g x ≤ hi) : ∀ (n : Nat) (l : List (Int × Int)), l.length = n → 0 ≤ mxL l g ∧ mxL l g ≤ hi := by
  intro n
  induction n with
  | zero =>
    intro l h
    rw [List.length_eq_zero_iff.mp h]
    exact ⟨Int.le_refl _, h0⟩
  | succ n ih =>
    intro l h
    have hne : l ≠ [] := fun e => by rw [e] at h; simp at h
    have e := List.dropLast_concat_getLast hne
    have hd := ih l.dropLast (by rw [List.length_dropLast]; omega)
    have hx := hg (l.getLast hne)
    rw [← e, mxL_s]
    unfold imax
    split <;> omega
/-- how many papers at most have one person weigh alike -/
noncomputable def alk1 (a : BV) (lw : List Int) (L : List (Int × Int)) (r : Int) : Int := mxL L (fun x => cntL L (fun y => wgt (torA a x.1 x.2) lw r = wgt (torA a y.1 y.2) lw r))
theorem alk1_b {a : BV} {lw : List Int} {L : List (Int × Int)} {r : Int} : 0 ≤ alk1 a lw L r ∧ alk1 a lw L r ≤ L.length := mxL_b (by omega) (fun x => (cntL_b L.length L rfl).2) L.length L rfl
def tmF (g : Int → Int) : Nat → Int → Int × Int → Int × Int
  | 0, _, s => s
  | n + 1, k, s => tmF g n (k + 1) (if s.1 = -1 ∨ g k < s.2 then (k, g k) else s)
noncomputable def wgdF (a : BV) (lw : List Int) (L : List (Int × Int)) : Int := if L = [] then -1 else (tmF (alk1 a lw L) (a 2).toNat 0 (-1, 0)).1
theorem tmF_1 {g : Int → Int} : ∀ (n : Nat) (k x y : Int), (tmF g n k (-1, x)).1 = (tmF g n k (-1, y)).1 := by
  intro n
  cases n with
  | zero => intro k x y; rfl
  | succ n =>
    intro k x y
    show (tmF g n (k + 1) (if (-1 : Int) = -1 ∨ g k < x then (k, g k) else (-1, x))).1 = (tmF g n (k + 1) (if (-1 : Int) = -1 ∨ g k < y then (k, g k) else (-1, y))).1
    rw [if_pos (Or.inl rfl), if_pos (Or.inl rfl)]
theorem fld_r {S : Type} {St : Int → Int → S → S} {D : Int} : ∀ (n : Nat) (k : Int) (s : S), fld D St (n + 1) k s = St ((k + n) / D) ((k + n) % D) (fld D St n k s) := by
  intro n
  induction n with
  | zero => intro k s; simp [fld]
  | succ n ih =>
    intro k s
    show fld D St (n + 1) (k + 1) (St (k / D) (k % D) s) = _
    rw [ih, show k + 1 + (n : Int) = k + ((n + 1 : Nat) : Int) by omega]
    rfl
/-- what is found among the first n -/
noncomputable def tnP (a : BV) (lw : List Int) (sn : Int → Int) (n : Nat) : List (Int × Int) := fld 10 (tnS a lw sn) n 0 []
theorem tnP_s {a : BV} {lw : List Int} {sn : Int → Int} {z : Int} (hz : 0 ≤ z) : tnP a lw sn (z + 1).toNat = cifS (fitP a lw sn (z / 10) (z % 10)) (tnP a lw sn z.toNat ++ [(z / 10, z % 10)]) (tnP a lw sn z.toNat) := by
  unfold tnP
  rw [show (z + 1).toNat = z.toNat + 1 by omega, fld_r, show (0 : Int) + (z.toNat : Int) = z by omega]
  rfl
theorem jor_pow {x : Int} {k : Nat} (hx : 0 ≤ x ∧ x < 2 ^ k) (hk : k < 62) : jor x (2 ^ k) = x + 2 ^ k := by
  obtain ⟨n, rfl⟩ : ∃ n : Nat, x = n := ⟨x.toNat, by omega⟩
  have hn : n < 2 ^ k := by exact_mod_cast hx.2
  have h62 : 2 ^ k < 9223372036854775808 := Nat.pow_lt_pow_right (a := 2) (m := k) (n := 63) (by decide) (by omega)
  have e : ((2 : Int) ^ k) = ((2 ^ k : Nat) : Int) := by exact_mod_cast rfl
  rw [e, jor_n (by omega) h62, Nat.or_comm]
  have := Nat.two_pow_add_eq_or_of_lt hn 1
  rw [Nat.mul_one] at this
  rw [← this]
  push_cast
  omega
theorem jor_0 {x : Int} (hx : 0 ≤ x ∧ x < 9223372036854775808) : jor x 0 = x := by
  obtain ⟨n, rfl⟩ : ∃ n : Nat, x = n := ⟨x.toNat, by omega⟩
  have : jor (n : Int) ((0 : Nat) : Int) = ((n ||| 0 : Nat) : Int) := jor_n (by omega) (by decide)
  rw [Nat.or_zero] at this
  exact this
theorem bset60 {c : Int → Prop} {z : Int} (hz : z ≤ 60) : 0 ≤ bset c z.toNat ∧ bset c z.toNat < 9223372036854775808 := by
  have h1 := bset_lt c z.toNat
  have h2 : (2 : Int) ^ z.toNat ≤ 2 ^ 60 := pow_le (by omega)
  have h3 : (2 : Int) ^ 60 = 1152921504606846976 := by decide
  omega
theorem bset_nil {c : Int → Prop} {n : Nat} (h : bset c n = 0) {i : Nat} (hi : i < n) : ¬ c i := fun x => by
  have := bset_bit c n i
  rw [h, cif_t ⟨hi, x⟩, Int.zero_ediv] at this
  omega
section WEIGHED
variable {d : Nat} {σ : Mem} {K : Option AV → Mem → Prop}
set_option maxRecDepth 4000 in
theorem q_weighed {t : Int} {sn : Int → Int} (ht : in32 t) (hs : ∀ i : Nat, i < 4 → (-1 ≤ σ 56 0 i ∧ σ 56 0 i ≤ 3) ∧ 0 ≤ σ 57 0 i ∧ σ 57 0 i ≤ 40) (hn : ∀ i k : Int, 0 ≤ i → i < 4 → 0 ≤ k → k < 40 → in64 (σ 58 0 (40 * i + k).toNat)) (hsn : ∀ r : Int, sn r = σ 58 0 (40 * t + r).toNat) (ho : OkA (σ 44 0)) (hl : LawA (σ 44 0))
    (h2 : ¬ (0 ≤ t ∧ t ≤ 3) → ∀ σ', rfw σ σ' → σ' 44 0 = σ 44 0 → K (some (.inl (-2))) σ') (h6 : 0 ≤ t ∧ t ≤ 3 → σ 56 0 t.toNat = -1 → ∀ σ', rfw σ σ' → σ' 44 0 = σ 44 0 → K (some (.inl (-6))) σ') (h4 : 0 ≤ t ∧ t ≤ 3 → ¬ σ 56 0 t.toNat = -1 → ¬ σ 57 0 t.toNat = σ 44 0 2 → ∀ σ', rfw σ σ' → σ' 44 0 = σ 44 0 → K (some (.inl (-4))) σ')
    (h0 : 0 ≤ t ∧ t ≤ 3 → ¬ σ 56 0 t.toNat = -1 → σ 57 0 t.toNat = σ 44 0 2 → ∀ σ', rfw σ σ' → σ' 44 0 = σ 44 0 → K (some (.inl (wgdF (σ 44 0) (lawR (σ 44 0) 0) (tnL (σ 44 0) (lawR (σ 44 0) 0) sn)))) σ') : Ev (d + 6) 284 [mo, .inl t] σ K := by
  have e0 : mu σ 12 0 0 0 44 = σ 44 := mu_k (by decide)
  have e56 : mu σ 12 0 0 0 56 = σ 56 := mu_k (by decide)
  have e57 : mu σ 12 0 0 0 57 = σ 57 := mu_k (by decide)
  have e58 : mu σ 12 0 0 0 58 = σ 58 := mu_k (by decide)
  generalize ha : σ 44 0 = a at ho hl h2 h6 h4 h0
  have hP := ho.P
  have ea : mu σ 12 0 0 0 44 0 = a := by rw [e0, ha]
  refine e_X12_weighed (Nat.le_of_ble_eq_true rfl) ?_
  simp only [wp_c, st_iload, st_lload, st_aload, st_istore, st_lstore, st_astore, st_iinc, st_sipush, st_jsr_w, st_goto, st_jsr, st_goto_w, st_if_icmp, st_ifCond, st_iadd, st_isub, st_imul, st_idiv, st_irem, st_iand, st_ior, st_ixor, st_ishl, st_ishr, st_iushr, st_ladd, st_lsub, st_lmul, st_ldiv, st_lrem, st_land, st_lor, st_lshl, st_lshr, st_i2l, st_l2i, st_i2b, st_i2s, st_i2c, st_lcmp, st_dup, st_pop, st_dup2, st_pop2, st_getfield, st_getstatic, st_checkcast, st_instanceof, st_putfield, st_putstatic, st_dstore, st_iaload, st_baload, st_laload, st_aaload, st_iastore, st_bastore, st_lastore, st_arraylength, st_dcmpg, st_dcmpl, st_fcmpg, st_fcmpl, st_monitorenter, st_tableswitch, st_multianewarray, st_invokeinterface, st_ireturn, st_lreturn, st_return_, st_ldc, st_ldc_w, st_ldc2_w, st_freturn, st_invokevirtual, st_anewarray0, st_anewarray1, st_anewarray2, st_anewarray3, st_anewarray4, st_anewarray5, st_lookupswitch, popI_c, popL_c, popR_c, popV_c, getI_c, getL_c, getR_c, lg_z, lg_s, ls1_z, ls1_o, ls1_s, ls2_z, ls2_o, ls2_s, noL_i, noL_l, noL_r, isL_i, isL_l, isL_r, tk_z, tk_s, psh_n, psh_s, ent_e, entL_n, entL_c, cc_eq, cc_ne, cc_lt, cc_ge, cc_gt, cc_le, swt_n, swt_c, lsw_n, lsw_c, mPs, NSTR_e, akds, alens, cnts, arfs, inb_e, lcm_lt, lcm_gt, lcm_ge, lcm_le, lcm_eq, lcm_a, lcm_b, Int.reduceToNat, Nat.reduceDiv, Nat.reduceMod, Nat.reduceMul, Nat.reduceAdd, Nat.reduceSub, Nat.reduceLT, Nat.reduceLeDiff, Nat.reduceEqDiff, Int.reduceNeg, Int.reduceAdd, Nat.one_mul, Nat.zero_mul, Nat.add_zero, Nat.zero_add, if_true, if_false, eq_self, true_and, and_true, true_or, or_true, false_or, or_false, List.length_cons, List.length_nil, List.cons_append, List.nil_append, List.replicate_zero, List.replicate_succ, Nat.lt_irrefl, reduceCtorEq, Bool.false_eq_true, in32, in64, Int.reduceLE, Int.reduceLT, Int.reduceEq, Int.reduceNe, not_true_eq_false, not_false_eq_true, true_implies, false_implies, implies_true, false_and, and_false, and_self, b_X12_weighed, r_X12_weighed]
  (repeat' with_reducible first | apply And.intro | intro _)
  all_goals try omega
  refine q_noSeen ht (fun i h => by rw [e56, e57]; exact hs i h) (by rw [ea]; exact ho) (fun c => ?_) (fun c c6 => ?_) (fun c c6 c4 => ?_) (fun c c6 c4 => ?_)
  · simp only [wp_c, st_iload, st_lload, st_aload, st_istore, st_lstore, st_astore, st_iinc, st_sipush, st_jsr_w, st_goto, st_jsr, st_goto_w, st_if_icmp, st_ifCond, st_iadd, st_isub, st_imul, st_idiv, st_irem, st_iand, st_ior, st_ixor, st_ishl, st_ishr, st_iushr, st_ladd, st_lsub, st_lmul, st_ldiv, st_lrem, st_land, st_lor, st_lshl, st_lshr, st_i2l, st_l2i, st_i2b, st_i2s, st_i2c, st_lcmp, st_dup, st_pop, st_dup2, st_pop2, st_getfield, st_getstatic, st_checkcast, st_instanceof, st_putfield, st_putstatic, st_dstore, st_iaload, st_baload, st_laload, st_aaload, st_iastore, st_bastore, st_lastore, st_arraylength, st_dcmpg, st_dcmpl, st_fcmpg, st_fcmpl, st_monitorenter, st_tableswitch, st_multianewarray, st_invokeinterface, st_ireturn, st_lreturn, st_return_, st_ldc, st_ldc_w, st_ldc2_w, st_freturn, st_invokevirtual, st_anewarray0, st_anewarray1, st_anewarray2, st_anewarray3, st_anewarray4, st_anewarray5, st_lookupswitch, popI_c, popL_c, popR_c, popV_c, getI_c, getL_c, getR_c, lg_z, lg_s, ls1_z, ls1_o, ls1_s, ls2_z, ls2_o, ls2_s, noL_i, noL_l, noL_r, isL_i, isL_l, isL_r, tk_z, tk_s, psh_n, psh_s, ent_e, entL_n, entL_c, cc_eq, cc_ne, cc_lt, cc_ge, cc_gt, cc_le, swt_n, swt_c, lsw_n, lsw_c, mPs, NSTR_e, akds, alens, cnts, arfs, inb_e, lcm_lt, lcm_gt, lcm_ge, lcm_le, lcm_eq, lcm_a, lcm_b, Int.reduceToNat, Nat.reduceDiv, Nat.reduceMod, Nat.reduceMul, Nat.reduceAdd, Nat.reduceSub, Nat.reduceLT, Nat.reduceLeDiff, Nat.reduceEqDiff, Int.reduceNeg, Int.reduceAdd, Nat.one_mul, Nat.zero_mul, Nat.add_zero, Nat.zero_add, if_true, if_false, eq_self, true_and, and_true, true_or, or_true, false_or, or_false, List.length_cons, List.length_nil, List.cons_append, List.nil_append, List.replicate_zero, List.replicate_succ, Nat.lt_irrefl, reduceCtorEq, Bool.false_eq_true, in32, in64, Int.reduceLE, Int.reduceLT, Int.reduceEq, Int.reduceNe, not_true_eq_false, not_false_eq_true, true_implies, false_implies, implies_true, false_and, and_false, and_self, b_X12_weighed, r_X12_weighed]
    (repeat' with_reducible first | apply And.intro | intro _)
    all_goals try omega
    all_goals exact h2 c _ rfm.st.w ea
  · rw [e56] at c6
    simp only [wp_c, st_iload, st_lload, st_aload, st_istore, st_lstore, st_astore, st_iinc, st_sipush, st_jsr_w, st_goto, st_jsr, st_goto_w, st_if_icmp, st_ifCond, st_iadd, st_isub, st_imul, st_idiv, st_irem, st_iand, st_ior, st_ixor, st_ishl, st_ishr, st_iushr, st_ladd, st_lsub, st_lmul, st_ldiv, st_lrem, st_land, st_lor, st_lshl, st_lshr, st_i2l, st_l2i, st_i2b, st_i2s, st_i2c, st_lcmp, st_dup, st_pop, st_dup2, st_pop2, st_getfield, st_getstatic, st_checkcast, st_instanceof, st_putfield, st_putstatic, st_dstore, st_iaload, st_baload, st_laload, st_aaload, st_iastore, st_bastore, st_lastore, st_arraylength, st_dcmpg, st_dcmpl, st_fcmpg, st_fcmpl, st_monitorenter, st_tableswitch, st_multianewarray, st_invokeinterface, st_ireturn, st_lreturn, st_return_, st_ldc, st_ldc_w, st_ldc2_w, st_freturn, st_invokevirtual, st_anewarray0, st_anewarray1, st_anewarray2, st_anewarray3, st_anewarray4, st_anewarray5, st_lookupswitch, popI_c, popL_c, popR_c, popV_c, getI_c, getL_c, getR_c, lg_z, lg_s, ls1_z, ls1_o, ls1_s, ls2_z, ls2_o, ls2_s, noL_i, noL_l, noL_r, isL_i, isL_l, isL_r, tk_z, tk_s, psh_n, psh_s, ent_e, entL_n, entL_c, cc_eq, cc_ne, cc_lt, cc_ge, cc_gt, cc_le, swt_n, swt_c, lsw_n, lsw_c, mPs, NSTR_e, akds, alens, cnts, arfs, inb_e, lcm_lt, lcm_gt, lcm_ge, lcm_le, lcm_eq, lcm_a, lcm_b, Int.reduceToNat, Nat.reduceDiv, Nat.reduceMod, Nat.reduceMul, Nat.reduceAdd, Nat.reduceSub, Nat.reduceLT, Nat.reduceLeDiff, Nat.reduceEqDiff, Int.reduceNeg, Int.reduceAdd, Nat.one_mul, Nat.zero_mul, Nat.add_zero, Nat.zero_add, if_true, if_false, eq_self, true_and, and_true, true_or, or_true, false_or, or_false, List.length_cons, List.length_nil, List.cons_append, List.nil_append, List.replicate_zero, List.replicate_succ, Nat.lt_irrefl, reduceCtorEq, Bool.false_eq_true, in32, in64, Int.reduceLE, Int.reduceLT, Int.reduceEq, Int.reduceNe, not_true_eq_false, not_false_eq_true, true_implies, false_implies, implies_true, false_and, and_false, and_self, b_X12_weighed, r_X12_weighed]
    (repeat' with_reducible first | apply And.intro | intro _)
    all_goals try omega
    all_goals exact h6 c c6 _ rfm.st.w ea
  · rw [e56] at c6
    rw [e57, ea] at c4
    simp only [wp_c, st_iload, st_lload, st_aload, st_istore, st_lstore, st_astore, st_iinc, st_sipush, st_jsr_w, st_goto, st_jsr, st_goto_w, st_if_icmp, st_ifCond, st_iadd, st_isub, st_imul, st_idiv, st_irem, st_iand, st_ior, st_ixor, st_ishl, st_ishr, st_iushr, st_ladd, st_lsub, st_lmul, st_ldiv, st_lrem, st_land, st_lor, st_lshl, st_lshr, st_i2l, st_l2i, st_i2b, st_i2s, st_i2c, st_lcmp, st_dup, st_pop, st_dup2, st_pop2, st_getfield, st_getstatic, st_checkcast, st_instanceof, st_putfield, st_putstatic, st_dstore, st_iaload, st_baload, st_laload, st_aaload, st_iastore, st_bastore, st_lastore, st_arraylength, st_dcmpg, st_dcmpl, st_fcmpg, st_fcmpl, st_monitorenter, st_tableswitch, st_multianewarray, st_invokeinterface, st_ireturn, st_lreturn, st_return_, st_ldc, st_ldc_w, st_ldc2_w, st_freturn, st_invokevirtual, st_anewarray0, st_anewarray1, st_anewarray2, st_anewarray3, st_anewarray4, st_anewarray5, st_lookupswitch, popI_c, popL_c, popR_c, popV_c, getI_c, getL_c, getR_c, lg_z, lg_s, ls1_z, ls1_o, ls1_s, ls2_z, ls2_o, ls2_s, noL_i, noL_l, noL_r, isL_i, isL_l, isL_r, tk_z, tk_s, psh_n, psh_s, ent_e, entL_n, entL_c, cc_eq, cc_ne, cc_lt, cc_ge, cc_gt, cc_le, swt_n, swt_c, lsw_n, lsw_c, mPs, NSTR_e, akds, alens, cnts, arfs, inb_e, lcm_lt, lcm_gt, lcm_ge, lcm_le, lcm_eq, lcm_a, lcm_b, Int.reduceToNat, Nat.reduceDiv, Nat.reduceMod, Nat.reduceMul, Nat.reduceAdd, Nat.reduceSub, Nat.reduceLT, Nat.reduceLeDiff, Nat.reduceEqDiff, Int.reduceNeg, Int.reduceAdd, Nat.one_mul, Nat.zero_mul, Nat.add_zero, Nat.zero_add, if_true, if_false, eq_self, true_and, and_true, true_or, or_true, false_or, or_false, List.length_cons, List.length_nil, List.cons_append, List.nil_append, List.replicate_zero, List.replicate_succ, Nat.lt_irrefl, reduceCtorEq, Bool.false_eq_true, in32, in64, Int.reduceLE, Int.reduceLT, Int.reduceEq, Int.reduceNe, not_true_eq_false, not_false_eq_true, true_implies, false_implies, implies_true, false_and, and_false, and_self, b_X12_weighed, r_X12_weighed]
    (repeat' with_reducible first | apply And.intro | intro _)
    all_goals try omega
    all_goals exact h4 c c6 c4 _ rfm.st.w ea
  · rw [e56] at c6
    rw [e57, ea] at c4
    have h0 : ∀ σ', eqx [44, 48, 49, 55] (mu σ 12 0 0 0) σ' → σ' 44 0 = a → K (some (.inl (wgdF a (lawR a 0) (tnL a (lawR a 0) sn)))) σ' := fun σ' y h => h0 c c6 c4 σ' (rfm.st.w.x y (by decide) (by decide)) h
    clear h2 h6 h4
    have hL : tnP a (lawR a 0) sn 60 = tnL a (lawR a 0) sn := tnL_10 ho
    have hlen : (tnL a (lawR a 0) sn).length ≤ 60 := by
      rw [← hL]
      obtain ⟨m, h1, h2⟩ := tn_pre (a := a) (lw := lawR a 0) (sn := sn) (D := 10) 60 0 []
      unfold tnP
      rw [h1]
      simpa using h2
    generalize hLL : tnL a (lawR a 0) sn = L at hL hlen h0
    -- the bits of what fits
    generalize hfz : (fun z : Int => fitP a (lawR a 0) sn (z / 10) (z % 10)) = fz
    have fzt : ∀ z : Int, fz z ↔ fitP a (lawR a 0) sn (z / 10) (z % 10) := fun z => by rw [← hfz]
    have fb := bset60 (c := fz) (z := 60) (by decide)
    have bit : ∀ z : Int, 0 ≤ z → z < 60 → (fz z → bset fz (60 : Int).toNat / 2 ^ z.toNat % 2 = 1) ∧ (¬ fz z → bset fz (60 : Int).toNat / 2 ^ z.toNat % 2 = 0) := fun z b1 b2 => by
      have h := bset_bit fz (60 : Int).toNat z.toNat
      rw [show ((z.toNat : Nat) : Int) = z by omega] at h
      refine ⟨fun x => ?_, fun x => ?_⟩
      · rw [h, cif_t ⟨by omega, x⟩]
      · rw [h, cif_f (fun y => x y.2)]
    generalize hB : bset fz (60 : Int).toNat = B at fb bit
    have main : ∀ σ1, eqx [44, 48, 49, 55] (mu σ 12 0 0 0) σ1 → σ1 44 0 = a → (∀ z r : Int, 0 ≤ z → z < 60 → fz z → 0 ≤ r → r < a 2 → σ1 55 0 (6 * z + r).toNat = wgt (torA a (z / 10) (z % 10)) (lawR a 0) r) → ∀ x8 x9 x10 x11 : AV, isL x8 = false → isL x9 = false → isL x10 = false → isL x11 = false → Rn (d + 6) 284 69 [mo, .inl t, .inl 0, .inl (-1), .inl 268435456, .inr (.inl (B)), .inr (.inr none), .inl 0, x8, x9, x10, x11] [] σ1 K := by
      intro σ1 x1 g1 w1 x8 x9 x10 x11 hx8 hx9 hx10 hx11
      have e2 : σ1 44 0 2 = a 2 := by rw [g1]
      by_cases cn : L = []
      · have hb0 : B = 0 := by
          have hz : B = bset (fun _ => False) (60 : Int).toNat := by
            rw [← hB]
            refine bset_congr (fun i b1 b2 => ⟨fun x => ?_, fun x => x.elim⟩)
            obtain ⟨m, h1, h2⟩ := tn_pre (a := a) (lw := lawR a 0) (sn := sn) (D := 10) (59 - i.toNat) (i + 1) (tnP a (lawR a 0) sn (i + 1).toNat)
            have e1 : tnP a (lawR a 0) sn 60 = fld 10 (tnS a (lawR a 0) sn) (59 - i.toNat) (i + 1) (tnP a (lawR a 0) sn (i + 1).toNat) := by
              have fa : ∀ (u v : Nat) (k : Int) (s : List (Int × Int)), fld 10 (tnS a (lawR a 0) sn) (u + v) k s = fld 10 (tnS a (lawR a 0) sn) v (k + u) (fld 10 (tnS a (lawR a 0) sn) u k s) := by
                intro u
                induction u with
                | zero => intro v k s; simp [fld]
                | succ u ih =>
                  intro v k s
                  rw [show u + 1 + v = (u + v) + 1 by omega]
                  show fld 10 (tnS a (lawR a 0) sn) (u + v) (k + 1) _ = fld 10 (tnS a (lawR a 0) sn) v _ (fld 10 (tnS a (lawR a 0) sn) u (k + 1) _)
                  rw [ih v (k + 1), show k + 1 + (u : Int) = k + ((u + 1 : Nat) : Int) by omega]
              unfold tnP
              rw [show (60 : Nat) = (i + 1).toNat + (59 - i.toNat) by omega, fa, show (0 : Int) + ((i + 1).toNat : Int) = i + 1 by omega]
            rw [h1, tnP_s b1, cifS_t ((fzt i).mp x), hL, cn] at e1
            simp at e1
          rw [hz]
          have := bset_lt (fun _ => False) (60 : Int).toNat
          have h9 : ∀ n : Nat, bset (fun _ => False) n = 0 := fun n => by
            induction n with
            | zero => rfl
            | succ n ih => rw [bset_s, ih, cif_f (fun x => x)]; rfl
          exact h9 _
        unfold wgdF at h0
        rw [if_pos cn] at h0
        rw [hb0]
        refine l_X12_weighed_69 ?_
        simp only [wp_c, st_iload, st_lload, st_aload, st_istore, st_lstore, st_astore, st_iinc, st_sipush, st_jsr_w, st_goto, st_jsr, st_goto_w, st_if_icmp, st_ifCond, st_iadd, st_isub, st_imul, st_idiv, st_irem, st_iand, st_ior, st_ixor, st_ishl, st_ishr, st_iushr, st_ladd, st_lsub, st_lmul, st_ldiv, st_lrem, st_land, st_lor, st_lshl, st_lshr, st_i2l, st_l2i, st_i2b, st_i2s, st_i2c, st_lcmp, st_dup, st_pop, st_dup2, st_pop2, st_getfield, st_getstatic, st_checkcast, st_instanceof, st_putfield, st_putstatic, st_dstore, st_iaload, st_baload, st_laload, st_aaload, st_iastore, st_bastore, st_lastore, st_arraylength, st_dcmpg, st_dcmpl, st_fcmpg, st_fcmpl, st_monitorenter, st_tableswitch, st_multianewarray, st_invokeinterface, st_ireturn, st_lreturn, st_return_, st_ldc, st_ldc_w, st_ldc2_w, st_freturn, st_invokevirtual, st_anewarray0, st_anewarray1, st_anewarray2, st_anewarray3, st_anewarray4, st_anewarray5, st_lookupswitch, popI_c, popL_c, popR_c, popV_c, getI_c, getL_c, getR_c, lg_z, lg_s, ls1_z, ls1_o, ls1_s, ls2_z, ls2_o, ls2_s, noL_i, noL_l, noL_r, isL_i, isL_l, isL_r, tk_z, tk_s, psh_n, psh_s, ent_e, entL_n, entL_c, cc_eq, cc_ne, cc_lt, cc_ge, cc_gt, cc_le, swt_n, swt_c, lsw_n, lsw_c, mPs, NSTR_e, akds, alens, cnts, arfs, inb_e, lcm_lt, lcm_gt, lcm_ge, lcm_le, lcm_eq, lcm_a, lcm_b, Int.reduceToNat, Nat.reduceDiv, Nat.reduceMod, Nat.reduceMul, Nat.reduceAdd, Nat.reduceSub, Nat.reduceLT, Nat.reduceLeDiff, Nat.reduceEqDiff, Int.reduceNeg, Int.reduceAdd, Nat.one_mul, Nat.zero_mul, Nat.add_zero, Nat.zero_add, if_true, if_false, eq_self, true_and, and_true, true_or, or_true, false_or, or_false, List.length_cons, List.length_nil, List.cons_append, List.nil_append, List.replicate_zero, List.replicate_succ, Nat.lt_irrefl, reduceCtorEq, Bool.false_eq_true, in32, in64, Int.reduceLE, Int.reduceLT, Int.reduceEq, Int.reduceNe, not_true_eq_false, not_false_eq_true, true_implies, false_implies, implies_true, false_and, and_false, and_self, b_X12_weighed, r_X12_weighed, h_X12_weighed_69, e2]
        (repeat' with_reducible first | apply And.intro | intro _)
        all_goals try omega
        all_goals exact h0 σ1 x1 g1
      · unfold wgdF at h0
        rw [if_neg cn, tmF_1 _ _ 0 268435456] at h0
        have hbn : ¬ B = 0 := fun hb => by
          have nf : ∀ n : Nat, n ≤ 60 → tnP a (lawR a 0) sn n = [] := fun n => by
            induction n with
            | zero => intro _; rfl
            | succ n ih =>
              intro hn
              have := tnP_s (a := a) (lw := lawR a 0) (sn := sn) (z := n) (by omega)
              rw [show ((n : Int) + 1).toNat = n + 1 by omega, show ((n : Int)).toNat = n by omega, ih (by omega)] at this
              rw [this, cifS_f (fun x => bset_nil (hB.trans hb) (i := n) (by show n < 60; omega) ((fzt n).mpr x))]
          exact cn (by rw [← hL]; exact nf 60 (Nat.le_refl _))
        -- persons
        have H2 : ∀ (n : Nat) (r : Int) (s : Int × Int) (x8 x9 x10 x11 : AV), isL x8 = false → isL x9 = false → isL x10 = false → isL x11 = false → 0 ≤ r → r + n = a 2 → 0 ≤ s.2 ∧ s.2 ≤ 268435456 → (s.1 = -1 → s.2 = 268435456) → tmF (alk1 a (lawR a 0) L) n r s = tmF (alk1 a (lawR a 0) L) (a 2).toNat 0 (-1, 268435456) → Rn (d + 6) 284 69 [mo, .inl t, .inl 0, .inl s.1, .inl s.2, .inr (.inl (B)), .inr (.inr none), .inl r, x8, x9, x10, x11] [] σ1 K := by
          intro n
          induction n with
          | zero =>
            rintro r ⟨s1, s2⟩ x8 x9 x10 x11 hx8 hx9 hx10 hx11 a1 a2 hb hi hh
            have hh : (s1, s2) = _ := hh
            rw [← hh] at h0
            refine l_X12_weighed_69 ?_
            simp only [wp_c, st_iload, st_lload, st_aload, st_istore, st_lstore, st_astore, st_iinc, st_sipush, st_jsr_w, st_goto, st_jsr, st_goto_w, st_if_icmp, st_ifCond, st_iadd, st_isub, st_imul, st_idiv, st_irem, st_iand, st_ior, st_ixor, st_ishl, st_ishr, st_iushr, st_ladd, st_lsub, st_lmul, st_ldiv, st_lrem, st_land, st_lor, st_lshl, st_lshr, st_i2l, st_l2i, st_i2b, st_i2s, st_i2c, st_lcmp, st_dup, st_pop, st_dup2, st_pop2, st_getfield, st_getstatic, st_checkcast, st_instanceof, st_putfield, st_putstatic, st_dstore, st_iaload, st_baload, st_laload, st_aaload, st_iastore, st_bastore, st_lastore, st_arraylength, st_dcmpg, st_dcmpl, st_fcmpg, st_fcmpl, st_monitorenter, st_tableswitch, st_multianewarray, st_invokeinterface, st_ireturn, st_lreturn, st_return_, st_ldc, st_ldc_w, st_ldc2_w, st_freturn, st_invokevirtual, st_anewarray0, st_anewarray1, st_anewarray2, st_anewarray3, st_anewarray4, st_anewarray5, st_lookupswitch, popI_c, popL_c, popR_c, popV_c, getI_c, getL_c, getR_c, lg_z, lg_s, ls1_z, ls1_o, ls1_s, ls2_z, ls2_o, ls2_s, noL_i, noL_l, noL_r, isL_i, isL_l, isL_r, tk_z, tk_s, psh_n, psh_s, ent_e, entL_n, entL_c, cc_eq, cc_ne, cc_lt, cc_ge, cc_gt, cc_le, swt_n, swt_c, lsw_n, lsw_c, mPs, NSTR_e, akds, alens, cnts, arfs, inb_e, lcm_lt, lcm_gt, lcm_ge, lcm_le, lcm_eq, lcm_a, lcm_b, Int.reduceToNat, Nat.reduceDiv, Nat.reduceMod, Nat.reduceMul, Nat.reduceAdd, Nat.reduceSub, Nat.reduceLT, Nat.reduceLeDiff, Nat.reduceEqDiff, Int.reduceNeg, Int.reduceAdd, Nat.one_mul, Nat.zero_mul, Nat.add_zero, Nat.zero_add, if_true, if_false, eq_self, true_and, and_true, true_or, or_true, false_or, or_false, List.length_cons, List.length_nil, List.cons_append, List.nil_append, List.replicate_zero, List.replicate_succ, Nat.lt_irrefl, reduceCtorEq, Bool.false_eq_true, in32, in64, Int.reduceLE, Int.reduceLT, Int.reduceEq, Int.reduceNe, not_true_eq_false, not_false_eq_true, true_implies, false_implies, implies_true, false_and, and_false, and_self, b_X12_weighed, r_X12_weighed, h_X12_weighed_69, e2]
            (repeat' with_reducible first | apply And.intro | intro _)
            all_goals try omega
            all_goals exact h0 σ1 x1 g1
          | succ n ih =>
            rintro r ⟨s1, s2⟩ x8 x9 x10 x11 hx8 hx9 hx10 hx11 a1 a2 hb hi hh
            have hb : 0 ≤ s2 ∧ s2 ≤ 268435456 := hb
            have hi : s1 = -1 → s2 = 268435456 := hi
            have hh : tmF (alk1 a (lawR a 0) L) n (r + 1) (if s1 = -1 ∨ alk1 a (lawR a 0) L r < s2 then (r, alk1 a (lawR a 0) L r) else (s1, s2)) = _ := hh
            have ab := alk1_b (a := a) (lw := lawR a 0) (L := L) (r := r)
            -- the others
            have H4 : ∀ (m z cnt y : Int), 0 ≤ z → z < 60 → 0 ≤ y → y ≤ 60 → cnt = cif (fz z) (cntL (tnP a (lawR a 0) sn y.toNat) (fun v => wgt (torA a (z / 10) (z % 10)) (lawR a 0) r = wgt (torA a v.1 v.2) (lawR a 0) r)) 0 → (∀ x11 : AV, isL x11 = false → Rn (d + 6) 284 93 [mo, .inl t, .inl 0, .inl s1, .inl s2, .inr (.inl (B)), .inr (.inr none), .inl r, .inl (imax m (cif (fz z) (cntL L (fun v => wgt (torA a (z / 10) (z % 10)) (lawR a 0) r = wgt (torA a v.1 v.2) (lawR a 0) r)) 0)), .inl (z + 1), .inl (cif (fz z) (cntL L (fun v => wgt (torA a (z / 10) (z % 10)) (lawR a 0) r = wgt (torA a v.1 v.2) (lawR a 0) r)) 0), x11] [] σ1 K) → 0 ≤ m ∧ m ≤ 60 → Rn (d + 6) 284 106 [mo, .inl t, .inl 0, .inl s1, .inl s2, .inr (.inl (B)), .inr (.inr none), .inl r, .inl m, .inl z, .inl cnt, .inl y] [] σ1 K := by
              intro m z cnt y b1 b2 b3 b4 hcnt go hm
              refine loop_up (S := Int) (I := fun y cnt => 0 ≤ y ∧ cnt = cif (fz z) (cntL (tnP a (lawR a 0) sn y.toNat) (fun v => wgt (torA a (z / 10) (z % 10)) (lawR a 0) r = wgt (torA a v.1 v.2) (lawR a 0) r)) 0) (G := fun y cnt => Rn (d + 6) 284 106 [mo, .inl t, .inl 0, .inl s1, .inl s2, .inr (.inl (B)), .inr (.inr none), .inl r, .inl m, .inl z, .inl cnt, .inl y] [] σ1 K) (P := 60) ?_ ?_ y cnt b4 ⟨b3, hcnt⟩
              · rintro cnt ⟨c1, c2⟩
                have c2 : cnt = cif (fz z) (cntL L (fun v => wgt (torA a (z / 10) (z % 10)) (lawR a 0) r = wgt (torA a v.1 v.2) (lawR a 0) r)) 0 := by rw [← hL]; exact c2
                have go := go (.inl 60) rfl
                have cb : 0 ≤ cnt ∧ cnt ≤ 60 := by
                  rw [c2]
                  have := cntL_b (c := fun v => wgt (torA a (z / 10) (z % 10)) (lawR a 0) r = wgt (torA a v.1 v.2) (lawR a 0) r) L.length L rfl
                  exact cif_b ⟨this.1, by omega⟩ (by decide)
                rw [← c2] at go
                refine l_X12_weighed_106 ?_
                simp only [wp_c, st_iload, st_lload, st_aload, st_istore, st_lstore, st_astore, st_iinc, st_sipush, st_jsr_w, st_goto, st_jsr, st_goto_w, st_if_icmp, st_ifCond, st_iadd, st_isub, st_imul, st_idiv, st_irem, st_iand, st_ior, st_ixor, st_ishl, st_ishr, st_iushr, st_ladd, st_lsub, st_lmul, st_ldiv, st_lrem, st_land, st_lor, st_lshl, st_lshr, st_i2l, st_l2i, st_i2b, st_i2s, st_i2c, st_lcmp, st_dup, st_pop, st_dup2, st_pop2, st_getfield, st_getstatic, st_checkcast, st_instanceof, st_putfield, st_putstatic, st_dstore, st_iaload, st_baload, st_laload, st_aaload, st_iastore, st_bastore, st_lastore, st_arraylength, st_dcmpg, st_dcmpl, st_fcmpg, st_fcmpl, st_monitorenter, st_tableswitch, st_multianewarray, st_invokeinterface, st_ireturn, st_lreturn, st_return_, st_ldc, st_ldc_w, st_ldc2_w, st_freturn, st_invokevirtual, st_anewarray0, st_anewarray1, st_anewarray2, st_anewarray3, st_anewarray4, st_anewarray5, st_lookupswitch, popI_c, popL_c, popR_c, popV_c, getI_c, getL_c, getR_c, lg_z, lg_s, ls1_z, ls1_o, ls1_s, ls2_z, ls2_o, ls2_s, noL_i, noL_l, noL_r, isL_i, isL_l, isL_r, tk_z, tk_s, psh_n, psh_s, ent_e, entL_n, entL_c, cc_eq, cc_ne, cc_lt, cc_ge, cc_gt, cc_le, swt_n, swt_c, lsw_n, lsw_c, mPs, NSTR_e, akds, alens, cnts, arfs, inb_e, lcm_lt, lcm_gt, lcm_ge, lcm_le, lcm_eq, lcm_a, lcm_b, Int.reduceToNat, Nat.reduceDiv, Nat.reduceMod, Nat.reduceMul, Nat.reduceAdd, Nat.reduceSub, Nat.reduceLT, Nat.reduceLeDiff, Nat.reduceEqDiff, Int.reduceNeg, Int.reduceAdd, Nat.one_mul, Nat.zero_mul, Nat.add_zero, Nat.zero_add, if_true, if_false, eq_self, true_and, and_true, true_or, or_true, false_or, or_false, List.length_cons, List.length_nil, List.cons_append, List.nil_append, List.replicate_zero, List.replicate_succ, Nat.lt_irrefl, reduceCtorEq, Bool.false_eq_true, in32, in64, Int.reduceLE, Int.reduceLT, Int.reduceEq, Int.reduceNe, not_true_eq_false, not_false_eq_true, true_implies, false_implies, implies_true, false_and, and_false, and_self, b_X12_weighed, r_X12_weighed, h_X12_weighed_106]
                (repeat' with_reducible first | apply And.intro | intro _)
                all_goals try omega
                · have e : imax m cnt = m := by unfold imax; split <;> omega
                  rw [e] at go
                  exact go
                · have e : imax m cnt = cnt := by unfold imax; split <;> omega
                  rw [e] at go
                  exact go
              · rintro y cnt hy ⟨c1, c2⟩ ih4
                have tp := tnP_s (a := a) (lw := lawR a 0) (sn := sn) c1
                refine l_X12_weighed_106 ?_
                simp only [wp_c, st_iload, st_lload, st_aload, st_istore, st_lstore, st_astore, st_iinc, st_sipush, st_jsr_w, st_goto, st_jsr, st_goto_w, st_if_icmp, st_ifCond, st_iadd, st_isub, st_imul, st_idiv, st_irem, st_iand, st_ior, st_ixor, st_ishl, st_ishr, st_iushr, st_ladd, st_lsub, st_lmul, st_ldiv, st_lrem, st_land, st_lor, st_lshl, st_lshr, st_i2l, st_l2i, st_i2b, st_i2s, st_i2c, st_lcmp, st_dup, st_pop, st_dup2, st_pop2, st_getfield, st_getstatic, st_checkcast, st_instanceof, st_putfield, st_putstatic, st_dstore, st_iaload, st_baload, st_laload, st_aaload, st_iastore, st_bastore, st_lastore, st_arraylength, st_dcmpg, st_dcmpl, st_fcmpg, st_fcmpl, st_monitorenter, st_tableswitch, st_multianewarray, st_invokeinterface, st_ireturn, st_lreturn, st_return_, st_ldc, st_ldc_w, st_ldc2_w, st_freturn, st_invokevirtual, st_anewarray0, st_anewarray1, st_anewarray2, st_anewarray3, st_anewarray4, st_anewarray5, st_lookupswitch, popI_c, popL_c, popR_c, popV_c, getI_c, getL_c, getR_c, lg_z, lg_s, ls1_z, ls1_o, ls1_s, ls2_z, ls2_o, ls2_s, noL_i, noL_l, noL_r, isL_i, isL_l, isL_r, tk_z, tk_s, psh_n, psh_s, ent_e, entL_n, entL_c, cc_eq, cc_ne, cc_lt, cc_ge, cc_gt, cc_le, swt_n, swt_c, lsw_n, lsw_c, mPs, NSTR_e, akds, alens, cnts, arfs, inb_e, lcm_lt, lcm_gt, lcm_ge, lcm_le, lcm_eq, lcm_a, lcm_b, Int.reduceToNat, Nat.reduceDiv, Nat.reduceMod, Nat.reduceMul, Nat.reduceAdd, Nat.reduceSub, Nat.reduceLT, Nat.reduceLeDiff, Nat.reduceEqDiff, Int.reduceNeg, Int.reduceAdd, Nat.one_mul, Nat.zero_mul, Nat.add_zero, Nat.zero_add, if_true, if_false, eq_self, true_and, and_true, true_or, or_true, false_or, or_false, List.length_cons, List.length_nil, List.cons_append, List.nil_append, List.replicate_zero, List.replicate_succ, Nat.lt_irrefl, reduceCtorEq, Bool.false_eq_true, in32, in64, Int.reduceLE, Int.reduceLT, Int.reduceEq, Int.reduceNe, not_true_eq_false, not_false_eq_true, true_implies, false_implies, implies_true, false_and, and_false, and_self, b_X12_weighed, r_X12_weighed, h_X12_weighed_106]
                (repeat' with_reducible first | apply And.intro | intro _)
                all_goals try omega
                by_cases cz : fz z
                · refine q_isIn ⟨by omega, by omega⟩ ⟨by omega, by omega⟩ (fun h => ?_) (fun h => ?_)
                  rotate_left 1
                  · have := (bit z b1 b2).1 cz
                    omega
                  rw [cif_t cz] at c2
                  simp only [wp_c, st_iload, st_lload, st_aload, st_istore, st_lstore, st_astore, st_iinc, st_sipush, st_jsr_w, st_goto, st_jsr, st_goto_w, st_if_icmp, st_ifCond, st_iadd, st_isub, st_imul, st_idiv, st_irem, st_iand, st_ior, st_ixor, st_ishl, st_ishr, st_iushr, st_ladd, st_lsub, st_lmul, st_ldiv, st_lrem, st_land, st_lor, st_lshl, st_lshr, st_i2l, st_l2i, st_i2b, st_i2s, st_i2c, st_lcmp, st_dup, st_pop, st_dup2, st_pop2, st_getfield, st_getstatic, st_checkcast, st_instanceof, st_putfield, st_putstatic, st_dstore, st_iaload, st_baload, st_laload, st_aaload, st_iastore, st_bastore, st_lastore, st_arraylength, st_dcmpg, st_dcmpl, st_fcmpg, st_fcmpl, st_monitorenter, st_tableswitch, st_multianewarray, st_invokeinterface, st_ireturn, st_lreturn, st_return_, st_ldc, st_ldc_w, st_ldc2_w, st_freturn, st_invokevirtual, st_anewarray0, st_anewarray1, st_anewarray2, st_anewarray3, st_anewarray4, st_anewarray5, st_lookupswitch, popI_c, popL_c, popR_c, popV_c, getI_c, getL_c, getR_c, lg_z, lg_s, ls1_z, ls1_o, ls1_s, ls2_z, ls2_o, ls2_s, noL_i, noL_l, noL_r, isL_i, isL_l, isL_r, tk_z, tk_s, psh_n, psh_s, ent_e, entL_n, entL_c, cc_eq, cc_ne, cc_lt, cc_ge, cc_gt, cc_le, swt_n, swt_c, lsw_n, lsw_c, mPs, NSTR_e, akds, alens, cnts, arfs, inb_e, lcm_lt, lcm_gt, lcm_ge, lcm_le, lcm_eq, lcm_a, lcm_b, Int.reduceToNat, Nat.reduceDiv, Nat.reduceMod, Nat.reduceMul, Nat.reduceAdd, Nat.reduceSub, Nat.reduceLT, Nat.reduceLeDiff, Nat.reduceEqDiff, Int.reduceNeg, Int.reduceAdd, Nat.one_mul, Nat.zero_mul, Nat.add_zero, Nat.zero_add, if_true, if_false, eq_self, true_and, and_true, true_or, or_true, false_or, or_false, List.length_cons, List.length_nil, List.cons_append, List.nil_append, List.replicate_zero, List.replicate_succ, Nat.lt_irrefl, reduceCtorEq, Bool.false_eq_true, in32, in64, Int.reduceLE, Int.reduceLT, Int.reduceEq, Int.reduceNe, not_true_eq_false, not_false_eq_true, true_implies, false_implies, implies_true, false_and, and_false, and_self, b_X12_weighed, r_X12_weighed]
                  (repeat' with_reducible first | apply And.intro | intro _)
                  all_goals try omega
                  by_cases cy : fz y
                  · refine q_isIn ⟨by omega, by omega⟩ ⟨by omega, by omega⟩ (fun h => ?_) (fun h => ?_)
                    rotate_left 1
                    · have := (bit y c1 hy).1 cy
                      omega
                    rw [cifS_t ((fzt y).mp cy)] at tp
                    have v1 := w1 z r b1 b2 cz a1 (by omega)
                    have v2 := w1 y r c1 hy cy a1 (by omega)
                    have ozd := whyT_0 ((fzt z).mp cz).1
                    have oyd := whyT_0 ((fzt y).mp cy).1
                    have wl1 := wgt_le (lw := lawR a 0) (torA_ok ho (p := z / 10) (q := z % 10) ⟨by omega, by omega⟩ ⟨by omega, by omega⟩) (p := r) ⟨a1, by omega⟩
                    have wl2 := wgt_le (lw := lawR a 0) (torA_ok ho (p := y / 10) (q := y % 10) ⟨by omega, by omega⟩ ⟨by omega, by omega⟩) (p := r) ⟨a1, by omega⟩
                    simp only [wp_c, st_iload, st_lload, st_aload, st_istore, st_lstore, st_astore, st_iinc, st_sipush, st_jsr_w, st_goto, st_jsr, st_goto_w, st_if_icmp, st_ifCond, st_iadd, st_isub, st_imul, st_idiv, st_irem, st_iand, st_ior, st_ixor, st_ishl, st_ishr, st_iushr, st_ladd, st_lsub, st_lmul, st_ldiv, st_lrem, st_land, st_lor, st_lshl, st_lshr, st_i2l, st_l2i, st_i2b, st_i2s, st_i2c, st_lcmp, st_dup, st_pop, st_dup2, st_pop2, st_getfield, st_getstatic, st_checkcast, st_instanceof, st_putfield, st_putstatic, st_dstore, st_iaload, st_baload, st_laload, st_aaload, st_iastore, st_bastore, st_lastore, st_arraylength, st_dcmpg, st_dcmpl, st_fcmpg, st_fcmpl, st_monitorenter, st_tableswitch, st_multianewarray, st_invokeinterface, st_ireturn, st_lreturn, st_return_, st_ldc, st_ldc_w, st_ldc2_w, st_freturn, st_invokevirtual, st_anewarray0, st_anewarray1, st_anewarray2, st_anewarray3, st_anewarray4, st_anewarray5, st_lookupswitch, popI_c, popL_c, popR_c, popV_c, getI_c, getL_c, getR_c, lg_z, lg_s, ls1_z, ls1_o, ls1_s, ls2_z, ls2_o, ls2_s, noL_i, noL_l, noL_r, isL_i, isL_l, isL_r, tk_z, tk_s, psh_n, psh_s, ent_e, entL_n, entL_c, cc_eq, cc_ne, cc_lt, cc_ge, cc_gt, cc_le, swt_n, swt_c, lsw_n, lsw_c, mPs, NSTR_e, akds, alens, cnts, arfs, inb_e, lcm_lt, lcm_gt, lcm_ge, lcm_le, lcm_eq, lcm_a, lcm_b, Int.reduceToNat, Nat.reduceDiv, Nat.reduceMod, Nat.reduceMul, Nat.reduceAdd, Nat.reduceSub, Nat.reduceLT, Nat.reduceLeDiff, Nat.reduceEqDiff, Int.reduceNeg, Int.reduceAdd, Nat.one_mul, Nat.zero_mul, Nat.add_zero, Nat.zero_add, if_true, if_false, eq_self, true_and, and_true, true_or, or_true, false_or, or_false, List.length_cons, List.length_nil, List.cons_append, List.nil_append, List.replicate_zero, List.replicate_succ, Nat.lt_irrefl, reduceCtorEq, Bool.false_eq_true, in32, in64, Int.reduceLE, Int.reduceLT, Int.reduceEq, Int.reduceNe, not_true_eq_false, not_false_eq_true, true_implies, false_implies, implies_true, false_and, and_false, and_self, b_X12_weighed, r_X12_weighed, v1, v2]
                    (repeat' with_reducible first | apply And.intro | intro _)
                    all_goals try omega
                    · rename_i ne
                      refine ih4 _ ⟨by omega, ?_⟩
                      rw [cif_t cz, tp, cntL_s, cif_f ne, c2]
                    · refine ih4 _ ⟨by omega, ?_⟩
                      rw [cif_t cz, tp, cntL_s, cif_t (by show wgt (torA a (z / 10) (z % 10)) (lawR a 0) r = wgt (torA a (y / 10) (y % 10)) (lawR a 0) r; omega), c2]
                  · refine q_isIn ⟨by omega, by omega⟩ ⟨by omega, by omega⟩ (fun h => ?_) (fun h => ?_)
                    · have := (bit y c1 hy).2 cy
                      omega
                    rw [cifS_f (fun x => cy ((fzt y).mpr x))] at tp
                    simp only [wp_c, st_iload, st_lload, st_aload, st_istore, st_lstore, st_astore, st_iinc, st_sipush, st_jsr_w, st_goto, st_jsr, st_goto_w, st_if_icmp, st_ifCond, st_iadd, st_isub, st_imul, st_idiv, st_irem, st_iand, st_ior, st_ixor, st_ishl, st_ishr, st_iushr, st_ladd, st_lsub, st_lmul, st_ldiv, st_lrem, st_land, st_lor, st_lshl, st_lshr, st_i2l, st_l2i, st_i2b, st_i2s, st_i2c, st_lcmp, st_dup, st_pop, st_dup2, st_pop2, st_getfield, st_getstatic, st_checkcast, st_instanceof, st_putfield, st_putstatic, st_dstore, st_iaload, st_baload, st_laload, st_aaload, st_iastore, st_bastore, st_lastore, st_arraylength, st_dcmpg, st_dcmpl, st_fcmpg, st_fcmpl, st_monitorenter, st_tableswitch, st_multianewarray, st_invokeinterface, st_ireturn, st_lreturn, st_return_, st_ldc, st_ldc_w, st_ldc2_w, st_freturn, st_invokevirtual, st_anewarray0, st_anewarray1, st_anewarray2, st_anewarray3, st_anewarray4, st_anewarray5, st_lookupswitch, popI_c, popL_c, popR_c, popV_c, getI_c, getL_c, getR_c, lg_z, lg_s, ls1_z, ls1_o, ls1_s, ls2_z, ls2_o, ls2_s, noL_i, noL_l, noL_r, isL_i, isL_l, isL_r, tk_z, tk_s, psh_n, psh_s, ent_e, entL_n, entL_c, cc_eq, cc_ne, cc_lt, cc_ge, cc_gt, cc_le, swt_n, swt_c, lsw_n, lsw_c, mPs, NSTR_e, akds, alens, cnts, arfs, inb_e, lcm_lt, lcm_gt, lcm_ge, lcm_le, lcm_eq, lcm_a, lcm_b, Int.reduceToNat, Nat.reduceDiv, Nat.reduceMod, Nat.reduceMul, Nat.reduceAdd, Nat.reduceSub, Nat.reduceLT, Nat.reduceLeDiff, Nat.reduceEqDiff, Int.reduceNeg, Int.reduceAdd, Nat.one_mul, Nat.zero_mul, Nat.add_zero, Nat.zero_add, if_true, if_false, eq_self, true_and, and_true, true_or, or_true, false_or, or_false, List.length_cons, List.length_nil, List.cons_append, List.nil_append, List.replicate_zero, List.replicate_succ, Nat.lt_irrefl, reduceCtorEq, Bool.false_eq_true, in32, in64, Int.reduceLE, Int.reduceLT, Int.reduceEq, Int.reduceNe, not_true_eq_false, not_false_eq_true, true_implies, false_implies, implies_true, false_and, and_false, and_self, b_X12_weighed, r_X12_weighed, Int.add_zero]
                    (repeat' with_reducible first | apply And.intro | intro _)
                    all_goals try omega
                    all_goals exact ih4 _ ⟨by omega, by rw [cif_t cz, tp]; exact c2⟩
                · refine q_isIn ⟨by omega, by omega⟩ ⟨by omega, by omega⟩ (fun h => ?_) (fun h => ?_)
                  · have := (bit z b1 b2).2 cz
                    omega
                  rw [cif_f cz] at c2
                  simp only [wp_c, st_iload, st_lload, st_aload, st_istore, st_lstore, st_astore, st_iinc, st_sipush, st_jsr_w, st_goto, st_jsr, st_goto_w, st_if_icmp, st_ifCond, st_iadd, st_isub, st_imul, st_idiv, st_irem, st_iand, st_ior, st_ixor, st_ishl, st_ishr, st_iushr, st_ladd, st_lsub, st_lmul, st_ldiv, st_lrem, st_land, st_lor, st_lshl, st_lshr, st_i2l, st_l2i, st_i2b, st_i2s, st_i2c, st_lcmp, st_dup, st_pop, st_dup2, st_pop2, st_getfield, st_getstatic, st_checkcast, st_instanceof, st_putfield, st_putstatic, st_dstore, st_iaload, st_baload, st_laload, st_aaload, st_iastore, st_bastore, st_lastore, st_arraylength, st_dcmpg, st_dcmpl, st_fcmpg, st_fcmpl, st_monitorenter, st_tableswitch, st_multianewarray, st_invokeinterface, st_ireturn, st_lreturn, st_return_, st_ldc, st_ldc_w, st_ldc2_w, st_freturn, st_invokevirtual, st_anewarray0, st_anewarray1, st_anewarray2, st_anewarray3, st_anewarray4, st_anewarray5, st_lookupswitch, popI_c, popL_c, popR_c, popV_c, getI_c, getL_c, getR_c, lg_z, lg_s, ls1_z, ls1_o, ls1_s, ls2_z, ls2_o, ls2_s, noL_i, noL_l, noL_r, isL_i, isL_l, isL_r, tk_z, tk_s, psh_n, psh_s, ent_e, entL_n, entL_c, cc_eq, cc_ne, cc_lt, cc_ge, cc_gt, cc_le, swt_n, swt_c, lsw_n, lsw_c, mPs, NSTR_e, akds, alens, cnts, arfs, inb_e, lcm_lt, lcm_gt, lcm_ge, lcm_le, lcm_eq, lcm_a, lcm_b, Int.reduceToNat, Nat.reduceDiv, Nat.reduceMod, Nat.reduceMul, Nat.reduceAdd, Nat.reduceSub, Nat.reduceLT, Nat.reduceLeDiff, Nat.reduceEqDiff, Int.reduceNeg, Int.reduceAdd, Nat.one_mul, Nat.zero_mul, Nat.add_zero, Nat.zero_add, if_true, if_false, eq_self, true_and, and_true, true_or, or_true, false_or, or_false, List.length_cons, List.length_nil, List.cons_append, List.nil_append, List.replicate_zero, List.replicate_succ, Nat.lt_irrefl, reduceCtorEq, Bool.false_eq_true, in32, in64, Int.reduceLE, Int.reduceLT, Int.reduceEq, Int.reduceNe, not_true_eq_false, not_false_eq_true, true_implies, false_implies, implies_true, false_and, and_false, and_self, b_X12_weighed, r_X12_weighed, Int.add_zero]
                  (repeat' with_reducible first | apply And.intro | intro _)
                  all_goals try omega
                  all_goals exact ih4 _ ⟨by omega, by rw [cif_f cz]; exact c2⟩
            -- the papers
            have H3 : ∀ (k : Nat) (z m : Int) (x10 x11 : AV), isL x10 = false → isL x11 = false → 0 ≤ z → z + k = 60 → m = mxL (tnP a (lawR a 0) sn z.toNat) (fun x => cntL L (fun v => wgt (torA a x.1 x.2) (lawR a 0) r = wgt (torA a v.1 v.2) (lawR a 0) r)) → Rn (d + 6) 284 93 [mo, .inl t, .inl 0, .inl s1, .inl s2, .inr (.inl (B)), .inr (.inr none), .inl r, .inl m, .inl z, x10, x11] [] σ1 K := by
              intro k
              induction k with
              | zero =>
                intro z m x10 x11 hx10 hx11 b1 b2 hm
                have ez : z = 60 := by omega
                subst ez
                have hm : m = alk1 a (lawR a 0) L r := by rw [hm, show ((60 : Int)).toNat = 60 from rfl, hL]; rfl
                rw [← hm] at hh ab
                refine l_X12_weighed_93 ?_
                simp only [wp_c, st_iload, st_lload, st_aload, st_istore, st_lstore, st_astore, st_iinc, st_sipush, st_jsr_w, st_goto, st_jsr, st_goto_w, st_if_icmp, st_ifCond, st_iadd, st_isub, st_imul, st_idiv, st_irem, st_iand, st_ior, st_ixor, st_ishl, st_ishr, st_iushr, st_ladd, st_lsub, st_lmul, st_ldiv, st_lrem, st_land, st_lor, st_lshl, st_lshr, st_i2l, st_l2i, st_i2b, st_i2s, st_i2c, st_lcmp, st_dup, st_pop, st_dup2, st_pop2, st_getfield, st_getstatic, st_checkcast, st_instanceof, st_putfield, st_putstatic, st_dstore, st_iaload, st_baload, st_laload, st_aaload, st_iastore, st_bastore, st_lastore, st_arraylength, st_dcmpg, st_dcmpl, st_fcmpg, st_fcmpl, st_monitorenter, st_tableswitch, st_multianewarray, st_invokeinterface, st_ireturn, st_lreturn, st_return_, st_ldc, st_ldc_w, st_ldc2_w, st_freturn, st_invokevirtual, st_anewarray0, st_anewarray1, st_anewarray2, st_anewarray3, st_anewarray4, st_anewarray5, st_lookupswitch, popI_c, popL_c, popR_c, popV_c, getI_c, getL_c, getR_c, lg_z, lg_s, ls1_z, ls1_o, ls1_s, ls2_z, ls2_o, ls2_s, noL_i, noL_l, noL_r, isL_i, isL_l, isL_r, tk_z, tk_s, psh_n, psh_s, ent_e, entL_n, entL_c, cc_eq, cc_ne, cc_lt, cc_ge, cc_gt, cc_le, swt_n, swt_c, lsw_n, lsw_c, mPs, NSTR_e, akds, alens, cnts, arfs, inb_e, lcm_lt, lcm_gt, lcm_ge, lcm_le, lcm_eq, lcm_a, lcm_b, Int.reduceToNat, Nat.reduceDiv, Nat.reduceMod, Nat.reduceMul, Nat.reduceAdd, Nat.reduceSub, Nat.reduceLT, Nat.reduceLeDiff, Nat.reduceEqDiff, Int.reduceNeg, Int.reduceAdd, Nat.one_mul, Nat.zero_mul, Nat.add_zero, Nat.zero_add, if_true, if_false, eq_self, true_and, and_true, true_or, or_true, false_or, or_false, List.length_cons, List.length_nil, List.cons_append, List.nil_append, List.replicate_zero, List.replicate_succ, Nat.lt_irrefl, reduceCtorEq, Bool.false_eq_true, in32, in64, Int.reduceLE, Int.reduceLT, Int.reduceEq, Int.reduceNe, not_true_eq_false, not_false_eq_true, true_implies, false_implies, implies_true, false_and, and_false, and_self, b_X12_weighed, r_X12_weighed, h_X12_weighed_93]
                (repeat' with_reducible first | apply And.intro | intro _)
                all_goals try omega
                · rw [if_pos (Or.inr (by omega))] at hh
                  exact ih (r + 1) (r, m) _ _ _ _ rfl rfl hx10 hx11 (by omega) (by omega) ⟨by omega, by show m ≤ 268435456; omega⟩ (fun h => by have h : r = -1 := h; omega) hh
                · rw [if_neg (by
                    rintro (h | h)
                    · have := hi h
                      omega
                    · omega)] at hh
                  exact ih (r + 1) (s1, s2) _ _ _ _ rfl rfl hx10 hx11 (by omega) (by omega) hb hi hh
              | succ k ih3 =>
                intro z m x10 x11 hx10 hx11 b1 b2 hm
                have mb : 0 ≤ m ∧ m ≤ 60 := by
                  rw [hm]
                  have := mxL_b (g := fun x => cntL L (fun v => wgt (torA a x.1 x.2) (lawR a 0) r = wgt (torA a v.1 v.2) (lawR a 0) r)) (hi := 60) (by decide) (fun x => by have := (cntL_b (c := fun v => wgt (torA a x.1 x.2) (lawR a 0) r = wgt (torA a v.1 v.2) (lawR a 0) r) L.length L rfl).2; omega) _ (tnP a (lawR a 0) sn z.toNat) rfl
                  exact this
                have tp := tnP_s (a := a) (lw := lawR a 0) (sn := sn) b1
                have nx : imax m (cif (fz z) (cntL L (fun v => wgt (torA a (z / 10) (z % 10)) (lawR a 0) r = wgt (torA a v.1 v.2) (lawR a 0) r)) 0) = mxL (tnP a (lawR a 0) sn (z + 1).toNat) (fun x => cntL L (fun v => wgt (torA a x.1 x.2) (lawR a 0) r = wgt (torA a v.1 v.2) (lawR a 0) r)) := by
                  rw [tp]
                  by_cases cz : fz z
                  · rw [cif_t cz, cifS_t ((fzt z).mp cz), mxL_s, ← hm]
                  · rw [cif_f cz, cifS_f (fun x => cz ((fzt z).mpr x)), ← hm]
                    unfold imax
                    split <;> omega
                have := H4 m z 0 0 b1 (by omega) (by decide) (by decide) (by
                  rcases cif_c (fz z) (cntL (tnP a (lawR a 0) sn (0 : Int).toNat) (fun v => wgt (torA a (z / 10) (z % 10)) (lawR a 0) r = wgt (torA a v.1 v.2) (lawR a 0) r)) 0 with e | e
                  · rw [e]; rfl
                  · rw [e]) (fun x11 hx11 => ih3 (z + 1) _ _ _ rfl hx11 (by omega) (by omega) nx) mb
                refine l_X12_weighed_93 ?_
                simp only [wp_c, st_iload, st_lload, st_aload, st_istore, st_lstore, st_astore, st_iinc, st_sipush, st_jsr_w, st_goto, st_jsr, st_goto_w, st_if_icmp, st_ifCond, st_iadd, st_isub, st_imul, st_idiv, st_irem, st_iand, st_ior, st_ixor, st_ishl, st_ishr, st_iushr, st_ladd, st_lsub, st_lmul, st_ldiv, st_lrem, st_land, st_lor, st_lshl, st_lshr, st_i2l, st_l2i, st_i2b, st_i2s, st_i2c, st_lcmp, st_dup, st_pop, st_dup2, st_pop2, st_getfield, st_getstatic, st_checkcast, st_instanceof, st_putfield, st_putstatic, st_dstore, st_iaload, st_baload, st_laload, st_aaload, st_iastore, st_bastore, st_lastore, st_arraylength, st_dcmpg, st_dcmpl, st_fcmpg, st_fcmpl, st_monitorenter, st_tableswitch, st_multianewarray, st_invokeinterface, st_ireturn, st_lreturn, st_return_, st_ldc, st_ldc_w, st_ldc2_w, st_freturn, st_invokevirtual, st_anewarray0, st_anewarray1, st_anewarray2, st_anewarray3, st_anewarray4, st_anewarray5, st_lookupswitch, popI_c, popL_c, popR_c, popV_c, getI_c, getL_c, getR_c, lg_z, lg_s, ls1_z, ls1_o, ls1_s, ls2_z, ls2_o, ls2_s, noL_i, noL_l, noL_r, isL_i, isL_l, isL_r, tk_z, tk_s, psh_n, psh_s, ent_e, entL_n, entL_c, cc_eq, cc_ne, cc_lt, cc_ge, cc_gt, cc_le, swt_n, swt_c, lsw_n, lsw_c, mPs, NSTR_e, akds, alens, cnts, arfs, inb_e, lcm_lt, lcm_gt, lcm_ge, lcm_le, lcm_eq, lcm_a, lcm_b, Int.reduceToNat, Nat.reduceDiv, Nat.reduceMod, Nat.reduceMul, Nat.reduceAdd, Nat.reduceSub, Nat.reduceLT, Nat.reduceLeDiff, Nat.reduceEqDiff, Int.reduceNeg, Int.reduceAdd, Nat.one_mul, Nat.zero_mul, Nat.add_zero, Nat.zero_add, if_true, if_false, eq_self, true_and, and_true, true_or, or_true, false_or, or_false, List.length_cons, List.length_nil, List.cons_append, List.nil_append, List.replicate_zero, List.replicate_succ, Nat.lt_irrefl, reduceCtorEq, Bool.false_eq_true, in32, in64, Int.reduceLE, Int.reduceLT, Int.reduceEq, Int.reduceNe, not_true_eq_false, not_false_eq_true, true_implies, false_implies, implies_true, false_and, and_false, and_self, b_X12_weighed, r_X12_weighed, h_X12_weighed_93]
                (repeat' with_reducible first | apply And.intro | intro _)
                all_goals try omega
                all_goals exact this
            have := H3 60 0 0 x10 x11 hx10 hx11 (by decide) (by decide) rfl
            refine l_X12_weighed_69 ?_
            simp only [wp_c, st_iload, st_lload, st_aload, st_istore, st_lstore, st_astore, st_iinc, st_sipush, st_jsr_w, st_goto, st_jsr, st_goto_w, st_if_icmp, st_ifCond, st_iadd, st_isub, st_imul, st_idiv, st_irem, st_iand, st_ior, st_ixor, st_ishl, st_ishr, st_iushr, st_ladd, st_lsub, st_lmul, st_ldiv, st_lrem, st_land, st_lor, st_lshl, st_lshr, st_i2l, st_l2i, st_i2b, st_i2s, st_i2c, st_lcmp, st_dup, st_pop, st_dup2, st_pop2, st_getfield, st_getstatic, st_checkcast, st_instanceof, st_putfield, st_putstatic, st_dstore, st_iaload, st_baload, st_laload, st_aaload, st_iastore, st_bastore, st_lastore, st_arraylength, st_dcmpg, st_dcmpl, st_fcmpg, st_fcmpl, st_monitorenter, st_tableswitch, st_multianewarray, st_invokeinterface, st_ireturn, st_lreturn, st_return_, st_ldc, st_ldc_w, st_ldc2_w, st_freturn, st_invokevirtual, st_anewarray0, st_anewarray1, st_anewarray2, st_anewarray3, st_anewarray4, st_anewarray5, st_lookupswitch, popI_c, popL_c, popR_c, popV_c, getI_c, getL_c, getR_c, lg_z, lg_s, ls1_z, ls1_o, ls1_s, ls2_z, ls2_o, ls2_s, noL_i, noL_l, noL_r, isL_i, isL_l, isL_r, tk_z, tk_s, psh_n, psh_s, ent_e, entL_n, entL_c, cc_eq, cc_ne, cc_lt, cc_ge, cc_gt, cc_le, swt_n, swt_c, lsw_n, lsw_c, mPs, NSTR_e, akds, alens, cnts, arfs, inb_e, lcm_lt, lcm_gt, lcm_ge, lcm_le, lcm_eq, lcm_a, lcm_b, Int.reduceToNat, Nat.reduceDiv, Nat.reduceMod, Nat.reduceMul, Nat.reduceAdd, Nat.reduceSub, Nat.reduceLT, Nat.reduceLeDiff, Nat.reduceEqDiff, Int.reduceNeg, Int.reduceAdd, Nat.one_mul, Nat.zero_mul, Nat.add_zero, Nat.zero_add, if_true, if_false, eq_self, true_and, and_true, true_or, or_true, false_or, or_false, List.length_cons, List.length_nil, List.cons_append, List.nil_append, List.replicate_zero, List.replicate_succ, Nat.lt_irrefl, reduceCtorEq, Bool.false_eq_true, in32, in64, Int.reduceLE, Int.reduceLT, Int.reduceEq, Int.reduceNe, not_true_eq_false, not_false_eq_true, true_implies, false_implies, implies_true, false_and, and_false, and_self, b_X12_weighed, r_X12_weighed, h_X12_weighed_69, e2]
            (repeat' with_reducible first | apply And.intro | intro _)
            all_goals try omega
            all_goals exact this
        exact H2 (a 2).toNat 0 (-1, 268435456) x8 x9 x10 x11 hx8 hx9 hx10 hx11 (by decide) (by omega) ⟨by decide, by decide⟩ (fun _ => rfl) rfl
    -- what fits
    have H1 : ∀ (n : Nat) (k : Int) (σc : Mem), 0 ≤ k → k + n = 60 → eqx [44, 48, 49, 55] (mu σ 12 0 0 0) σc → σc 44 0 = a → (∀ z r : Int, 0 ≤ z → z < k → fz z → 0 ≤ r → r < a 2 → σc 55 0 (6 * z + r).toNat = wgt (torA a (z / 10) (z % 10)) (lawR a 0) r) → Rn (d + 6) 284 30 [mo, .inl t, .inl 0, .inl (-1), .inl 268435456, .inr (.inl (bset fz k.toNat)), .inr (.inr none), .inl k, .inr (.inr none), .inr (.inr none), .inr (.inr none), .inr (.inr none)] [] σc K := by
      intro n
      induction n with
      | zero =>
        intro k σc a1 a2 xc gc wc
        have ek : k = 60 := by omega
        subst ek
        rw [hB]
        have := main σc xc gc wc (.inr (.inr none)) (.inr (.inr none)) (.inr (.inr none)) (.inr (.inr none)) rfl rfl rfl rfl
        refine l_X12_weighed_30 ?_
        simp only [wp_c, st_iload, st_lload, st_aload, st_istore, st_lstore, st_astore, st_iinc, st_sipush, st_jsr_w, st_goto, st_jsr, st_goto_w, st_if_icmp, st_ifCond, st_iadd, st_isub, st_imul, st_idiv, st_irem, st_iand, st_ior, st_ixor, st_ishl, st_ishr, st_iushr, st_ladd, st_lsub, st_lmul, st_ldiv, st_lrem, st_land, st_lor, st_lshl, st_lshr, st_i2l, st_l2i, st_i2b, st_i2s, st_i2c, st_lcmp, st_dup, st_pop, st_dup2, st_pop2, st_getfield, st_getstatic, st_checkcast, st_instanceof, st_putfield, st_putstatic, st_dstore, st_iaload, st_baload, st_laload, st_aaload, st_iastore, st_bastore, st_lastore, st_arraylength, st_dcmpg, st_dcmpl, st_fcmpg, st_fcmpl, st_monitorenter, st_tableswitch, st_multianewarray, st_invokeinterface, st_ireturn, st_lreturn, st_return_, st_ldc, st_ldc_w, st_ldc2_w, st_freturn, st_invokevirtual, st_anewarray0, st_anewarray1, st_anewarray2, st_anewarray3, st_anewarray4, st_anewarray5, st_lookupswitch, popI_c, popL_c, popR_c, popV_c, getI_c, getL_c, getR_c, lg_z, lg_s, ls1_z, ls1_o, ls1_s, ls2_z, ls2_o, ls2_s, noL_i, noL_l, noL_r, isL_i, isL_l, isL_r, tk_z, tk_s, psh_n, psh_s, ent_e, entL_n, entL_c, cc_eq, cc_ne, cc_lt, cc_ge, cc_gt, cc_le, swt_n, swt_c, lsw_n, lsw_c, mPs, NSTR_e, akds, alens, cnts, arfs, inb_e, lcm_lt, lcm_gt, lcm_ge, lcm_le, lcm_eq, lcm_a, lcm_b, Int.reduceToNat, Nat.reduceDiv, Nat.reduceMod, Nat.reduceMul, Nat.reduceAdd, Nat.reduceSub, Nat.reduceLT, Nat.reduceLeDiff, Nat.reduceEqDiff, Int.reduceNeg, Int.reduceAdd, Nat.one_mul, Nat.zero_mul, Nat.add_zero, Nat.zero_add, if_true, if_false, eq_self, true_and, and_true, true_or, or_true, false_or, or_false, List.length_cons, List.length_nil, List.cons_append, List.nil_append, List.replicate_zero, List.replicate_succ, Nat.lt_irrefl, reduceCtorEq, Bool.false_eq_true, in32, in64, Int.reduceLE, Int.reduceLT, Int.reduceEq, Int.reduceNe, not_true_eq_false, not_false_eq_true, true_implies, false_implies, implies_true, false_and, and_false, and_self, b_X12_weighed, r_X12_weighed, h_X12_weighed_30]
        (repeat' with_reducible first | apply And.intro | intro _)
        all_goals try omega
        all_goals exact this
      | succ n ih =>
        intro k σc a1 a2 xc gc wc
        have f58 : σc 58 = σ 58 := (xc 58 (by decide)).trans e58
        have bk := bset60 (c := fz) (z := k) (by omega)
        have hsh : jshl 1 k = 2 ^ k.toNat := by
          have := jshl_1 k.toNat (by omega)
          rw [Int.toNat_of_nonneg a1] at this
          exact this
        refine l_X12_weighed_30 ?_
        simp only [wp_c, st_iload, st_lload, st_aload, st_istore, st_lstore, st_astore, st_iinc, st_sipush, st_jsr_w, st_goto, st_jsr, st_goto_w, st_if_icmp, st_ifCond, st_iadd, st_isub, st_imul, st_idiv, st_irem, st_iand, st_ior, st_ixor, st_ishl, st_ishr, st_iushr, st_ladd, st_lsub, st_lmul, st_ldiv, st_lrem, st_land, st_lor, st_lshl, st_lshr, st_i2l, st_l2i, st_i2b, st_i2s, st_i2c, st_lcmp, st_dup, st_pop, st_dup2, st_pop2, st_getfield, st_getstatic, st_checkcast, st_instanceof, st_putfield, st_putstatic, st_dstore, st_iaload, st_baload, st_laload, st_aaload, st_iastore, st_bastore, st_lastore, st_arraylength, st_dcmpg, st_dcmpl, st_fcmpg, st_fcmpl, st_monitorenter, st_tableswitch, st_multianewarray, st_invokeinterface, st_ireturn, st_lreturn, st_return_, st_ldc, st_ldc_w, st_ldc2_w, st_freturn, st_invokevirtual, st_anewarray0, st_anewarray1, st_anewarray2, st_anewarray3, st_anewarray4, st_anewarray5, st_lookupswitch, popI_c, popL_c, popR_c, popV_c, getI_c, getL_c, getR_c, lg_z, lg_s, ls1_z, ls1_o, ls1_s, ls2_z, ls2_o, ls2_s, noL_i, noL_l, noL_r, isL_i, isL_l, isL_r, tk_z, tk_s, psh_n, psh_s, ent_e, entL_n, entL_c, cc_eq, cc_ne, cc_lt, cc_ge, cc_gt, cc_le, swt_n, swt_c, lsw_n, lsw_c, mPs, NSTR_e, akds, alens, cnts, arfs, inb_e, lcm_lt, lcm_gt, lcm_ge, lcm_le, lcm_eq, lcm_a, lcm_b, Int.reduceToNat, Nat.reduceDiv, Nat.reduceMod, Nat.reduceMul, Nat.reduceAdd, Nat.reduceSub, Nat.reduceLT, Nat.reduceLeDiff, Nat.reduceEqDiff, Int.reduceNeg, Int.reduceAdd, Nat.one_mul, Nat.zero_mul, Nat.add_zero, Nat.zero_add, if_true, if_false, eq_self, true_and, and_true, true_or, or_true, false_or, or_false, List.length_cons, List.length_nil, List.cons_append, List.nil_append, List.replicate_zero, List.replicate_succ, Nat.lt_irrefl, reduceCtorEq, Bool.false_eq_true, in32, in64, Int.reduceLE, Int.reduceLT, Int.reduceEq, Int.reduceNe, not_true_eq_false, not_false_eq_true, true_implies, false_implies, implies_true, false_and, and_false, and_self, b_X12_weighed, r_X12_weighed, h_X12_weighed_30]
        (repeat' with_reducible first | apply And.intro | intro _)
        all_goals try omega
        refine q_fits (sn := sn) c ⟨a1, by omega⟩ (by rw [gc]; exact ho) (by rw [gc]; exact hl) (fun r => by rw [f58]; exact hsn r) (fun r b1 b2 => by rw [hsn]; exact hn t r c.1 (by omega) b1 b2) (fun σ2 x2 g2 w2 cf => ?_) (fun σ2 x2 g2 w2 cf => ?_)
        all_goals rw [gc] at g2 cf
        · rw [gc] at w2
          have eb : jor (bset fz k.toNat) (2 ^ k.toNat) = bset fz (k + 1).toNat := by
            rw [show (k + 1).toNat = k.toNat + 1 by omega, bset_s, Int.toNat_of_nonneg a1, cif_t ((fzt k).mpr cf), jor_pow (bset_lt fz _) (by omega)]
          simp only [wp_c, st_iload, st_lload, st_aload, st_istore, st_lstore, st_astore, st_iinc, st_sipush, st_jsr_w, st_goto, st_jsr, st_goto_w, st_if_icmp, st_ifCond, st_iadd, st_isub, st_imul, st_idiv, st_irem, st_iand, st_ior, st_ixor, st_ishl, st_ishr, st_iushr, st_ladd, st_lsub, st_lmul, st_ldiv, st_lrem, st_land, st_lor, st_lshl, st_lshr, st_i2l, st_l2i, st_i2b, st_i2s, st_i2c, st_lcmp, st_dup, st_pop, st_dup2, st_pop2, st_getfield, st_getstatic, st_checkcast, st_instanceof, st_putfield, st_putstatic, st_dstore, st_iaload, st_baload, st_laload, st_aaload, st_iastore, st_bastore, st_lastore, st_arraylength, st_dcmpg, st_dcmpl, st_fcmpg, st_fcmpl, st_monitorenter, st_tableswitch, st_multianewarray, st_invokeinterface, st_ireturn, st_lreturn, st_return_, st_ldc, st_ldc_w, st_ldc2_w, st_freturn, st_invokevirtual, st_anewarray0, st_anewarray1, st_anewarray2, st_anewarray3, st_anewarray4, st_anewarray5, st_lookupswitch, popI_c, popL_c, popR_c, popV_c, getI_c, getL_c, getR_c, lg_z, lg_s, ls1_z, ls1_o, ls1_s, ls2_z, ls2_o, ls2_s, noL_i, noL_l, noL_r, isL_i, isL_l, isL_r, tk_z, tk_s, psh_n, psh_s, ent_e, entL_n, entL_c, cc_eq, cc_ne, cc_lt, cc_ge, cc_gt, cc_le, swt_n, swt_c, lsw_n, lsw_c, mPs, NSTR_e, akds, alens, cnts, arfs, inb_e, lcm_lt, lcm_gt, lcm_ge, lcm_le, lcm_eq, lcm_a, lcm_b, Int.reduceToNat, Nat.reduceDiv, Nat.reduceMod, Nat.reduceMul, Nat.reduceAdd, Nat.reduceSub, Nat.reduceLT, Nat.reduceLeDiff, Nat.reduceEqDiff, Int.reduceNeg, Int.reduceAdd, Nat.one_mul, Nat.zero_mul, Nat.add_zero, Nat.zero_add, if_true, if_false, eq_self, true_and, and_true, true_or, or_true, false_or, or_false, List.length_cons, List.length_nil, List.cons_append, List.nil_append, List.replicate_zero, List.replicate_succ, Nat.lt_irrefl, reduceCtorEq, Bool.false_eq_true, in32, in64, Int.reduceLE, Int.reduceLT, Int.reduceEq, Int.reduceNe, not_true_eq_false, not_false_eq_true, true_implies, false_implies, implies_true, false_and, and_false, and_self, b_X12_weighed, r_X12_weighed, hsh, eb]
          (repeat' with_reducible first | apply And.intro | intro _)
          all_goals try omega
          all_goals refine ih (k + 1) σ2 (by omega) (by omega) (xc.tr x2) g2 (fun z r b1 b2 b3 b4 b5 => ?_)
          all_goals rw [w2]
          all_goals by_cases cz : z = k
          all_goals first | (subst cz; rw [if_pos ⟨by omega, by omega⟩, show ((6 * z + r).toNat : Int) - 6 * z = r by omega]; done) | (rw [if_neg (by omega)]; exact wc z r b1 (by omega) b3 b4 b5)
        · have eb : bset fz k.toNat = bset fz (k + 1).toNat := bset_f a1 (fun x => cf ((fzt k).mp x))
          have ej := jor_0 bk
          rw [eb] at ej
          simp only [wp_c, st_iload, st_lload, st_aload, st_istore, st_lstore, st_astore, st_iinc, st_sipush, st_jsr_w, st_goto, st_jsr, st_goto_w, st_if_icmp, st_ifCond, st_iadd, st_isub, st_imul, st_idiv, st_irem, st_iand, st_ior, st_ixor, st_ishl, st_ishr, st_iushr, st_ladd, st_lsub, st_lmul, st_ldiv, st_lrem, st_land, st_lor, st_lshl, st_lshr, st_i2l, st_l2i, st_i2b, st_i2s, st_i2c, st_lcmp, st_dup, st_pop, st_dup2, st_pop2, st_getfield, st_getstatic, st_checkcast, st_instanceof, st_putfield, st_putstatic, st_dstore, st_iaload, st_baload, st_laload, st_aaload, st_iastore, st_bastore, st_lastore, st_arraylength, st_dcmpg, st_dcmpl, st_fcmpg, st_fcmpl, st_monitorenter, st_tableswitch, st_multianewarray, st_invokeinterface, st_ireturn, st_lreturn, st_return_, st_ldc, st_ldc_w, st_ldc2_w, st_freturn, st_invokevirtual, st_anewarray0, st_anewarray1, st_anewarray2, st_anewarray3, st_anewarray4, st_anewarray5, st_lookupswitch, popI_c, popL_c, popR_c, popV_c, getI_c, getL_c, getR_c, lg_z, lg_s, ls1_z, ls1_o, ls1_s, ls2_z, ls2_o, ls2_s, noL_i, noL_l, noL_r, isL_i, isL_l, isL_r, tk_z, tk_s, psh_n, psh_s, ent_e, entL_n, entL_c, cc_eq, cc_ne, cc_lt, cc_ge, cc_gt, cc_le, swt_n, swt_c, lsw_n, lsw_c, mPs, NSTR_e, akds, alens, cnts, arfs, inb_e, lcm_lt, lcm_gt, lcm_ge, lcm_le, lcm_eq, lcm_a, lcm_b, Int.reduceToNat, Nat.reduceDiv, Nat.reduceMod, Nat.reduceMul, Nat.reduceAdd, Nat.reduceSub, Nat.reduceLT, Nat.reduceLeDiff, Nat.reduceEqDiff, Int.reduceNeg, Int.reduceAdd, Nat.one_mul, Nat.zero_mul, Nat.add_zero, Nat.zero_add, if_true, if_false, eq_self, true_and, and_true, true_or, or_true, false_or, or_false, List.length_cons, List.length_nil, List.cons_append, List.nil_append, List.replicate_zero, List.replicate_succ, Nat.lt_irrefl, reduceCtorEq, Bool.false_eq_true, in32, in64, Int.reduceLE, Int.reduceLT, Int.reduceEq, Int.reduceNe, not_true_eq_false, not_false_eq_true, true_implies, false_implies, implies_true, false_and, and_false, and_self, b_X12_weighed, r_X12_weighed, eb, ej]
          (repeat' with_reducible first | apply And.intro | intro _)
          all_goals try omega
          all_goals refine ih (k + 1) σ2 (by omega) (by omega) (xc.tr x2) g2 (fun z r b1 b2 b3 b4 b5 => ?_)
          all_goals by_cases cz : z = k
          all_goals first | (subst cz; exact absurd ((fzt z).mp b3) cf) | (rw [w2 _ (by omega)]; exact wc z r b1 (by omega) b3 b4 b5)
    simp only [wp_c, st_iload, st_lload, st_aload, st_istore, st_lstore, st_astore, st_iinc, st_sipush, st_jsr_w, st_goto, st_jsr, st_goto_w, st_if_icmp, st_ifCond, st_iadd, st_isub, st_imul, st_idiv, st_irem, st_iand, st_ior, st_ixor, st_ishl, st_ishr, st_iushr, st_ladd, st_lsub, st_lmul, st_ldiv, st_lrem, st_land, st_lor, st_lshl, st_lshr, st_i2l, st_l2i, st_i2b, st_i2s, st_i2c, st_lcmp, st_dup, st_pop, st_dup2, st_pop2, st_getfield, st_getstatic, st_checkcast, st_instanceof, st_putfield, st_putstatic, st_dstore, st_iaload, st_baload, st_laload, st_aaload, st_iastore, st_bastore, st_lastore, st_arraylength, st_dcmpg, st_dcmpl, st_fcmpg, st_fcmpl, st_monitorenter, st_tableswitch, st_multianewarray, st_invokeinterface, st_ireturn, st_lreturn, st_return_, st_ldc, st_ldc_w, st_ldc2_w, st_freturn, st_invokevirtual, st_anewarray0, st_anewarray1, st_anewarray2, st_anewarray3, st_anewarray4, st_anewarray5, st_lookupswitch, popI_c, popL_c, popR_c, popV_c, getI_c, getL_c, getR_c, lg_z, lg_s, ls1_z, ls1_o, ls1_s, ls2_z, ls2_o, ls2_s, noL_i, noL_l, noL_r, isL_i, isL_l, isL_r, tk_z, tk_s, psh_n, psh_s, ent_e, entL_n, entL_c, cc_eq, cc_ne, cc_lt, cc_ge, cc_gt, cc_le, swt_n, swt_c, lsw_n, lsw_c, mPs, NSTR_e, akds, alens, cnts, arfs, inb_e, lcm_lt, lcm_gt, lcm_ge, lcm_le, lcm_eq, lcm_a, lcm_b, Int.reduceToNat, Nat.reduceDiv, Nat.reduceMod, Nat.reduceMul, Nat.reduceAdd, Nat.reduceSub, Nat.reduceLT, Nat.reduceLeDiff, Nat.reduceEqDiff, Int.reduceNeg, Int.reduceAdd, Nat.one_mul, Nat.zero_mul, Nat.add_zero, Nat.zero_add, if_true, if_false, eq_self, true_and, and_true, true_or, or_true, false_or, or_false, List.length_cons, List.length_nil, List.cons_append, List.nil_append, List.replicate_zero, List.replicate_succ, Nat.lt_irrefl, reduceCtorEq, Bool.false_eq_true, in32, in64, Int.reduceLE, Int.reduceLT, Int.reduceEq, Int.reduceNe, not_true_eq_false, not_false_eq_true, true_implies, false_implies, implies_true, false_and, and_false, and_self, b_X12_weighed, r_X12_weighed]
    (repeat' with_reducible first | apply And.intro | intro _)
    all_goals try omega
    exact H1 60 0 _ (by decide) (by decide) eqx.rf ea (fun z r b1 b2 => by omega)
end WEIGHED
