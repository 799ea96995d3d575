/-! at: the reference's constructor; calls of constructors in the law -/
theorem q_plain4 {d : Nat} {σ : Mem} {K : Option AV → Mem → Prop} (hK : ∀ σ', eqx [44] σ σ' → (∀ j : Nat, j < 1514 → σ' 44 0 j = if j = 1 then 1 else 0) → K none σ') : Ev (d + 1) 159 [.inr (.inr (some (44, 0)))] σ K := by
  refine e_X12_plain (Nat.le_of_ble_eq_true rfl) ?_
  simp only [wp_c, st_iload, st_lload, st_aload, st_istore, st_lstore, st_astore, st_iinc, st_sipush, st_jsr_w, st_goto, st_jsr, st_goto_w, st_if_icmp, st_ifCond, st_iadd, st_isub, st_imul, st_idiv, st_irem, st_iand, st_ior, st_ixor, st_ishl, st_ishr, st_iushr, st_ladd, st_lsub, st_lmul, st_ldiv, st_lrem, st_land, st_lor, st_lshl, st_lshr, st_i2l, st_l2i, st_i2b, st_i2s, st_i2c, st_lcmp, st_dup, st_pop, st_dup2, st_pop2, st_getfield, st_getstatic, st_checkcast, st_instanceof, st_putfield, st_putstatic, st_dstore, st_iaload, st_baload, st_laload, st_aaload, st_iastore, st_bastore, st_lastore, st_arraylength, st_dcmpg, st_dcmpl, st_fcmpg, st_fcmpl, st_monitorenter, st_tableswitch, st_multianewarray, st_invokeinterface, st_ireturn, st_lreturn, st_return_, st_ldc, st_ldc_w, st_ldc2_w, st_freturn, st_invokevirtual, st_anewarray0, st_anewarray1, st_anewarray2, st_anewarray3, st_anewarray4, st_anewarray5, st_lookupswitch, popI_c, popL_c, popR_c, popV_c, getI_c, getL_c, getR_c, lg_z, lg_s, ls1_z, ls1_o, ls1_s, ls2_z, ls2_o, ls2_s, noL_i, noL_l, noL_r, isL_i, isL_l, isL_r, tk_z, tk_s, psh_n, psh_s, ent_e, entL_n, entL_c, cc_eq, cc_ne, cc_lt, cc_ge, cc_gt, cc_le, swt_n, swt_c, lsw_n, lsw_c, mPs, NSTR_e, akds, alens, cnts, arfs, inb_e, lcm_lt, lcm_gt, lcm_ge, lcm_le, lcm_eq, lcm_a, lcm_b, Int.reduceToNat, Nat.reduceDiv, Nat.reduceMod, Nat.reduceMul, Nat.reduceAdd, Nat.reduceSub, Nat.reduceLT, Nat.reduceLeDiff, Nat.reduceEqDiff, Int.reduceNeg, Int.reduceAdd, Nat.one_mul, Nat.zero_mul, Nat.add_zero, Nat.zero_add, if_true, if_false, eq_self, true_and, and_true, true_or, or_true, false_or, or_false, List.length_cons, List.length_nil, List.cons_append, List.nil_append, List.replicate_zero, List.replicate_succ, Nat.lt_irrefl, reduceCtorEq, Bool.false_eq_true, in32, in64, Int.reduceLE, Int.reduceLT, Int.reduceEq, Int.reduceNe, not_true_eq_false, not_false_eq_true, true_implies, false_implies, implies_true, false_and, and_false, and_self, b_X12_plain, r_X12_plain]
  refine loop_up (S := Mem) (I := fun z τ => 0 ≤ z ∧ eqx [44] σ τ ∧ ∀ j : Nat, (j : Int) < z → τ 44 0 j = 0) (G := fun z τ => Rn (d + 1) 159 2 [.inr (.inr (some (44, 0))), .inl z] [] τ K) (P := 1514) ?_ ?_ 0 σ (by decide) ⟨Int.le_refl _, eqx.rf, fun j h => by omega⟩
  · rintro τ ⟨c1, c2, c3⟩
    have := hK (mu τ 44 0 1 1) (eqx_mu c2 (by decide)) (fun j hj => by
      rw [mu_at]
      split
      · rfl
      · exact c3 j (by omega))
    refine l_X12_plain_2 ?_
    simp only [wp_c, st_iload, st_lload, st_aload, st_istore, st_lstore, st_astore, st_iinc, st_sipush, st_jsr_w, st_goto, st_jsr, st_goto_w, st_if_icmp, st_ifCond, st_iadd, st_isub, st_imul, st_idiv, st_irem, st_iand, st_ior, st_ixor, st_ishl, st_ishr, st_iushr, st_ladd, st_lsub, st_lmul, st_ldiv, st_lrem, st_land, st_lor, st_lshl, st_lshr, st_i2l, st_l2i, st_i2b, st_i2s, st_i2c, st_lcmp, st_dup, st_pop, st_dup2, st_pop2, st_getfield, st_getstatic, st_checkcast, st_instanceof, st_putfield, st_putstatic, st_dstore, st_iaload, st_baload, st_laload, st_aaload, st_iastore, st_bastore, st_lastore, st_arraylength, st_dcmpg, st_dcmpl, st_fcmpg, st_fcmpl, st_monitorenter, st_tableswitch, st_multianewarray, st_invokeinterface, st_ireturn, st_lreturn, st_return_, st_ldc, st_ldc_w, st_ldc2_w, st_freturn, st_invokevirtual, st_anewarray0, st_anewarray1, st_anewarray2, st_anewarray3, st_anewarray4, st_anewarray5, st_lookupswitch, popI_c, popL_c, popR_c, popV_c, getI_c, getL_c, getR_c, lg_z, lg_s, ls1_z, ls1_o, ls1_s, ls2_z, ls2_o, ls2_s, noL_i, noL_l, noL_r, isL_i, isL_l, isL_r, tk_z, tk_s, psh_n, psh_s, ent_e, entL_n, entL_c, cc_eq, cc_ne, cc_lt, cc_ge, cc_gt, cc_le, swt_n, swt_c, lsw_n, lsw_c, mPs, NSTR_e, akds, alens, cnts, arfs, inb_e, lcm_lt, lcm_gt, lcm_ge, lcm_le, lcm_eq, lcm_a, lcm_b, Int.reduceToNat, Nat.reduceDiv, Nat.reduceMod, Nat.reduceMul, Nat.reduceAdd, Nat.reduceSub, Nat.reduceLT, Nat.reduceLeDiff, Nat.reduceEqDiff, Int.reduceNeg, Int.reduceAdd, Nat.one_mul, Nat.zero_mul, Nat.add_zero, Nat.zero_add, if_true, if_false, eq_self, true_and, and_true, true_or, or_true, false_or, or_false, List.length_cons, List.length_nil, List.cons_append, List.nil_append, List.replicate_zero, List.replicate_succ, Nat.lt_irrefl, reduceCtorEq, Bool.false_eq_true, in32, in64, Int.reduceLE, Int.reduceLT, Int.reduceEq, Int.reduceNe, not_true_eq_false, not_false_eq_true, true_implies, false_implies, implies_true, false_and, and_false, and_self, b_X12_plain, r_X12_plain, h_X12_plain_2]
    (repeat' with_reducible first | apply And.intro | intro _)
    all_goals try omega
    all_goals exact this
  · rintro z τ hz ⟨c1, c2, c3⟩ ih
    refine l_X12_plain_2 ?_
    simp only [wp_c, st_iload, st_lload, st_aload, st_istore, st_lstore, st_astore, st_iinc, st_sipush, st_jsr_w, st_goto, st_jsr, st_goto_w, st_if_icmp, st_ifCond, st_iadd, st_isub, st_imul, st_idiv, st_irem, st_iand, st_ior, st_ixor, st_ishl, st_ishr, st_iushr, st_ladd, st_lsub, st_lmul, st_ldiv, st_lrem, st_land, st_lor, st_lshl, st_lshr, st_i2l, st_l2i, st_i2b, st_i2s, st_i2c, st_lcmp, st_dup, st_pop, st_dup2, st_pop2, st_getfield, st_getstatic, st_checkcast, st_instanceof, st_putfield, st_putstatic, st_dstore, st_iaload, st_baload, st_laload, st_aaload, st_iastore, st_bastore, st_lastore, st_arraylength, st_dcmpg, st_dcmpl, st_fcmpg, st_fcmpl, st_monitorenter, st_tableswitch, st_multianewarray, st_invokeinterface, st_ireturn, st_lreturn, st_return_, st_ldc, st_ldc_w, st_ldc2_w, st_freturn, st_invokevirtual, st_anewarray0, st_anewarray1, st_anewarray2, st_anewarray3, st_anewarray4, st_anewarray5, st_lookupswitch, popI_c, popL_c, popR_c, popV_c, getI_c, getL_c, getR_c, lg_z, lg_s, ls1_z, ls1_o, ls1_s, ls2_z, ls2_o, ls2_s, noL_i, noL_l, noL_r, isL_i, isL_l, isL_r, tk_z, tk_s, psh_n, psh_s, ent_e, entL_n, entL_c, cc_eq, cc_ne, cc_lt, cc_ge, cc_gt, cc_le, swt_n, swt_c, lsw_n, lsw_c, mPs, NSTR_e, akds, alens, cnts, arfs, inb_e, lcm_lt, lcm_gt, lcm_ge, lcm_le, lcm_eq, lcm_a, lcm_b, Int.reduceToNat, Nat.reduceDiv, Nat.reduceMod, Nat.reduceMul, Nat.reduceAdd, Nat.reduceSub, Nat.reduceLT, Nat.reduceLeDiff, Nat.reduceEqDiff, Int.reduceNeg, Int.reduceAdd, Nat.one_mul, Nat.zero_mul, Nat.add_zero, Nat.zero_add, if_true, if_false, eq_self, true_and, and_true, true_or, or_true, false_or, or_false, List.length_cons, List.length_nil, List.cons_append, List.nil_append, List.replicate_zero, List.replicate_succ, Nat.lt_irrefl, reduceCtorEq, Bool.false_eq_true, in32, in64, Int.reduceLE, Int.reduceLT, Int.reduceEq, Int.reduceNe, not_true_eq_false, not_false_eq_true, true_implies, false_implies, implies_true, false_and, and_false, and_self, b_X12_plain, r_X12_plain, h_X12_plain_2]
    (repeat' with_reducible first | apply And.intro | intro _)
    all_goals try omega
    refine ih _ ⟨by omega, eqx_mu c2 (by decide), fun j hj => ?_⟩
    rw [mu_at]
    by_cases e : j = z.toNat
    · rw [if_pos e]
    · rw [if_neg e]
      exact c3 j (by omega)
theorem ST_hi {ρ ρ' : Rho} {A : Nat → Prop} {s : State} (he : ∀ K i : Nat, 59 ≤ K → ρ' K i = ρ K i) (h : ST ρ A s) : ST ρ' A s := by
  have e63 : ∀ n, ρ' 63 n = ρ 63 n := fun n => he 63 n (by decide)
  have e64 : ∀ n, ρ' 64 n = ρ 64 n := fun n => he 64 n (by decide)
  have e66 : ∀ n, ρ' 66 n = ρ 66 n := fun n => he 66 n (by decide)
  unfold ST SS SS1 SS2 at h ⊢
  simp only [e63, e64, e66]
  exact h
abbrev B12 : List CE := C1 ++ [.inl (12, dfC 12)]
abbrev a12 : List AV := [.inr (.inr (some (70, 142)))]
def Q12 (D : va_G) (dA : Nat → ClassId) (α : Nat → Nat) (ρ : Rho) (A : Nat → Prop) : Array Value → State → Outcome → State → Prop := fun _ st o t =>
  (∃ (ρ' : Rho) (σ' : Mem), (∀ K i : Nat, 59 ≤ K → ρ' K i = ρ K i) ∧ ρ' 11 0 = α 0 ∧ ρ' 12 0 = α 142 ∧ TI 999 σ' ∧ o = .returned none ∧ va_P D vwCl (wld dA ρ' σ') t.heap ∧ va_K D vwCl (tys dA) t ∧ va_D A (wld dA ρ' σ')) ∧ va_F A st t
theorem d12_152 : decode (cB 12) 152 = .ok (.invokestatic 64, 3) := by decide +kernel
theorem d12_155 : decode (cB 12) 155 = .ok (.return_, 1) := by decide +kernel
set_option maxRecDepth 100000 in
theorem l12_in : (12, 64, 159) ∈ MLT := by decide +kernel
theorem ix_a : ixC 44 0 = 143 ∧ ixC 11 0 = 0 ∧ ixC 12 0 = 142 := by decide +kernel
theorem B12_len : (B12.length = 143 ∧ C1.length = 142) ∧ C2.length = 158 := by decide +kernel
set_option maxHeartbeats 4000000 in
theorem M12 (l : Launch) (D : va_G) (dA : Nat → ClassId) (α : Nat → Nat) (ρ : Rho) (sz : Nat) : Met l (cY 12) (Cond.code (cY 12) (cB 12) (cL 12) none :: tbg) (rmC 2 15 8475)
    (va_Pc (a12.map (cv (rA α))) (fun U => U.heap.size = sz ∧ va_P D vwCl (wrl dA α B12) U.heap ∧ va_K D vwCl (tys dA) U ∧ va_D (fun _ => True) (wrl dA α B12) ∧ SC U ∧ ST ρ (va_A (wrl dA α B12) sz) U))
    (Q12 D dA α ρ (va_A (wrl dA α B12) sz)) 15 8475 (va_A (wrl dA α B12) sz) := by
  obtain ⟨y1, y2, y3, y4, y5, y6, y7⟩ := cY_ok ⟨12, by decide⟩
  simp only at y1 y2 y3 y4 y5 y6 y7
  refine Met.ofW (cc := cB 12) (maxL := cL 12) (ret := none) y1 rfl ?_
  intro p e s m args below meth c s₁ B hml hv
  obtain ⟨rfl, hsz, hP, hK, hD0, hSC, hST⟩ := hv
  subst hsz
  have hts := atoms_spec (ws := Cond.code (cY 12) (cB 12) (cL 12) none :: tbg) B.pre
  have hown : s.vm.findClass (cY 12).cls = some m.cls := findClass_of_methodNamed B.named
  have hle := lv_entry (a12.map (cv (rA α))) (n := cL 12) (Nat.le_of_ble_eq_true rfl)
  have hin : meth.name = "<init>" := ((name_of_methodNamed B.named B.method).1).trans y3
  rw [lg_entry_eq]
  have C : CxC 12 p s m (a12.map (cv (rA α))).toArray meth c D dA (va_A (wrl dA α B12) s.heap.size) := ⟨B.exec, B.bytes, B.returns, hml, fun w hw => hts w (List.mem_cons_of_mem _ hw), by rw [← y2]; exact hown, B.notSynchronized, hK, fun q hq => Or.inr hq, hin, hSC⟩
  have key : WCt 12 p l e (rmC 2 15 8475) s m (a12.map (cv (rA α))).toArray below meth c D dA (va_A (wrl dA α B12) s.heap.size) 143 α (MQ below (Q12 D dA α ρ (va_A (wrl dA α B12) s.heap.size)) (a12.map (cv (rA α))).toArray s 15 8475 (va_A (wrl dA α B12) s.heap.size)) 152 [.inr (.inr (some (70, 142)))] [.inr (.inr (some (70, 143)))] C2 15 8475 := by
    intro α' H locs la h1 h2 hl hP' hD' hS
    obtain ⟨hPw, hDw⟩ := made_wld (ρ := ρ) hP' hD'
    have hA := C.2.2.2.2.2.2.2.2.1
    have htg := C.2.2.2.2.1
    have hM := (q_plain4 (d := 0) (σ := s0) (K := fun r σ' => r = none ∧ TI 999 σ') (fun σ' g1 g2 => ⟨rfl, TI_start g1 g2⟩)) l D dA (r0 ρ α') H.size
    obtain ⟨m1, m2, m3, m4, m5, m6, m7⟩ := mok_spec (show 159 < 315 by decide)
    have hT' : ST (r0 ρ α') (va_A (wrl dA α B12) s.heap.size) s := ST_hi (fun K i h => r0_hi h) hST
    have hp := pre_call (av := [.inr (.inr (some (44, 0)))]) (σ := s0) hK hA hT' hPw hDw hS
    have hlink := htg _ (ml_in _ (List.mem_map.mpr ⟨(12, 64, 159), l12_in, rfl⟩))
    have e44 : r0 ρ α' 44 0 = α' 143 := by rw [r0_lo (by decide), ix_a.1]
    have hstack : (F0 m 152 la (([.inr (.inr (some (70, 143)))] : List AV).map (cv (rA α')))).stack = ((([.inr (.inr (some (44, 0)))] : List AV).map (cv (r0 ρ α'))).reverse ++ ([] : List Value)) := by
      show [Value.ref (α' 143)] = [Value.ref (r0 ρ α' 44 0)]
      rw [e44]
    have run : va_Run p l e (rmC 2 15 8475) s m (a12.map (cv (rA α))).toArray below meth c H locs 15 8475 0 0 (F0 m 152 la (([.inr (.inr (some (70, 143)))] : List AV).map (cv (rA α')))) [] (QK D dA (r0 ρ α') (va_A (wld dA (r0 ρ α') s0) H.size) (fun r σ' => r = none ∧ TI 999 σ') (([.inr (.inr (some (44, 0)))] : List AV).map (cv (r0 ρ α'))).toArray) (va_A (wld dA (r0 ρ α') s0) H.size) :=
      va_runS (own := cnm 12) ⟨C.1, C.2.1, C.2.2.2.1, C.2.2.2.2.2.1, htg⟩ hM ⟨callB_of (mP 159) htg (good_tbg 159 (by decide)) rfl rfl rfl (htg _ m5) hlink m3 (room_okG m4 ⟨by decide, by decide⟩), htg _ (m6 (by decide +kernel))⟩ hp rfl rfl hl.1 hstack (lv_room (Nat.le_of_ble_eq_true rfl)) d12_152 ⟨by decide, by decide⟩
    have hAA : ∀ q, va_A (wld dA (r0 ρ α') s0) H.size q → va_A (wrl dA α B12) s.heap.size q := by
      rintro q (⟨k, x, h⟩ | h)
      · exact hDw.2 k _ h
      · exact hA q (Nat.le_trans hS.1 h)
    intro T hT X
    obtain ⟨v, st₀, t, T', L, h0, X', hL, e1, e2, ⟨⟨r, σ', hv, ⟨hr, hTI⟩, hP2, hK2, hD2⟩, hz, hkk⟩, stp⟩ := run T hT X
    subst hr
    cases hv
    rw [h0] at hz hkk
    rw [← e1] at hP2 hz hkk
    have hS2 : va_S (va_A (wrl dA α B12) s.heap.size) s.heap T'.heap (locs ++ L) := ⟨Nat.le_trans hS.1 hz, fun q h1 h2 => by rw [hkk q (Nat.lt_of_lt_of_le h1 hS.1) (fun z => h2 (hAA q z))]; exact hS.2.1 q h1 h2, fun q hq => by
      rcases List.mem_append.mp hq with h | h
      · exact hS.2.2 q h
      · exact hAA _ (hL q h)⟩
    have G : W p l e (rmC 2 15 8475) s m (a12.map (cv (rA α))).toArray below meth c T'.heap (locs ++ L) 15 8475 (MQ below (Q12 D dA α ρ (va_A (wrl dA α B12) s.heap.size)) (a12.map (cv (rA α))).toArray s 15 8475 (va_A (wrl dA α B12) s.heap.size)) (F0 m 155 la []) :=
      W.vret C.1 C.2.1 C.2.2.1 (fun t ht hW => ⟨⟨r0 ρ α', σ', fun K i h => r0_hi h, by rw [r0_lo (by decide), ix_a.2.1]; exact h1 0 (by decide), by rw [r0_lo (by decide), ix_a.2.2]; exact h1 142 (by decide), hTI, rfl, by rw [ht]; exact hP2, va_K.moved hW.alike hK, hD2.weaken (fun _ _ _ h => hAA _ h)⟩, hS2.F ht⟩) hS2.2.2 d12_155 C.2.2.2.2.2.2.1
    obtain ⟨t2, a1, b1⟩ := G T' rfl X'
    exact ⟨t2, stp t2 a1, b1⟩
  refine exP_ok (sp := 152) (c0 := 143) (α0 := α) (by decide) C (by decide) (by decide) ⟨by decide, by decide⟩ key 300 0 _ _ _ 0 0 C2_run α s.heap [] _ (fun _ _ => rfl) (by rw [B12_len.1.1]; exact Nat.le_refl _) (lv_mono hle ?_) hP hD0.self va_S.rf
  intro q hq
  obtain ⟨i, h1, h2, h3⟩ := (lvp_mem (rA α) _ 0 q).mp hq
  rw [h2]
  unfold ent at h3 ⊢
  rcases lg_app _ _ _ h3 with ⟨g1, g2⟩ | ⟨g1, g2⟩
  · rw [g2] at h3 ⊢
    exact ent_args _ 0 i h3
  · rw [g2, lg_rep] at h3
    simp [isN] at h3
theorem C1_MC : MC 8 11 [.inr (.inr (some (70, 0)))] [.inl (11, dfC 11)] C1 := exC_MC (by decide) (by decide +kernel) C1_run
section LAWN
variable {p : Program} {l : Launch} {e : Env} {R : Room} {s : State} {m : MethodId} {args : Array Value} {below : List Frame} {meth : Method} {c : Code} {D : va_G} {dA : Nat → ClassId} {A : Nat → Prop} {H : Heap} {locs : List Loc} {Q : State → Prop} {la : Array Slot} {rest : List Value} {cells slots : Nat}
theorem L_new {k x pc : Nat} {cs : List CE} {α : Nat → Nat} (hx : p.tables.exec = Jvm.exec) (hb : c.code = code) (htg : ∀ w ∈ tbg, w.before args s = true) (hown : s.vm.findClass (cnm 19) = some m.cls) (hK : va_K D vwCl (tys dA) s) (hk : k < 13) (he : (19, x, k) ∈ CLT) (hw : cs.all (wfE cs.length) = true) (hP : va_P D vwCl (wrl dA α cs) H) (hD : va_D A (wrl dA α cs)) (hS : va_S A s.heap H locs) (hA : ∀ q, s.heap.size ≤ q → A q) (hc : cells + 1 ≤ R.cells) (hs : slots + nX k ≤ R.slots) (hd : decode code pc = .ok (.new x, 3))
    (kk : ∀ (q : Nat) (H1 : Heap), va_P D vwCl (wrl dA (upA α cs.length q) (cs ++ [.inl (k, dfC k)])) H1 → va_D A (wrl dA (upA α cs.length q) (cs ++ [.inl (k, dfC k)])) → va_S A s.heap H1 locs → W p l e R s m args below meth c H1 locs (cells + 1) (slots + nX k) Q (F0 m (pc + 3) la (.ref q :: rest))) : W p l e R s m args below meth c H locs cells slots Q (F0 m pc la rest) := by
  obtain ⟨g1, g2, g3, g4⟩ := cl_at hk
  obtain ⟨m1, m2, m3⟩ := mem3 hk
  have hfs : ∀ i, i < nX k → defaultValue (tyX k i) = vp_V ((dfC k).map (cv (fun _ _ => 0))) i := fun i hi => by
    have := (nX_le ⟨k, hk⟩).1
    exact dfl_ok ⟨k, hk⟩ ⟨i, by have : nX k ≤ 40 := this; omega⟩ hi
  refine va_new (C := cnm k) (T := tX k) (N := nX k) (ci := k) (own := cnm 19) hx hb htg g2 (tyX k) g3 hown (htg _ (CLT_in _ (List.mem_map.mpr ⟨_, he, rfl⟩))) (htg _ m3) (htg _ m2) hK hP hD hS hA g1 hfs hc hs hd (fun q H1 hP1 hD1 hS1 => ?_)
  have ev : wrl dA α cs ++ [(q, (Sum.inr (k, (dfC k).map (cv (fun _ _ => 0))) : va_E))] = wrl dA (upA α cs.length q) (cs ++ [.inl (k, dfC k)]) := by
    rw [wrl_app hw]
    show _ = wrl dA α cs ++ [(q, (Sum.inr (k, (dfC k).map (cv (rA (upA α cs.length q)))) : va_E))]
    rw [dfC_cv (ρ := rA (upA α cs.length q)) (ρ' := fun _ _ => 0)]
  rw [ev] at hP1 hD1
  exact kk q H1 hP1 hD1 hS1
theorem L_run {k x pc d mc ms q : Nat} {Pr : State → Prop} {Qc : Array Value → State → Outcome → State → Prop} {fr : Nat → Prop} (hx : p.tables.exec = Jvm.exec) (hb : c.code = code) (hml : c.maxLocals = 4) (htg : ∀ w ∈ tbg, w.before args s = true) (hown : s.vm.findClass (cnm 19) = some m.cls) (hk : k < 13) (hP0 : cP k = 0) (he : (19, x, k) ∈ CMT) (hM : Met l (cY k) (Cond.code (cY k) (cB k) (cL k) none :: tbg) (rmC d mc ms) (va_Pc [Value.ref q] Pr) Qc mc ms fr) (hp : FrameBlind (va_Pc [Value.ref q] Pr) ∧ ∀ U : State, U.heap = H → s.WarmedH U.vm → va_Pc [Value.ref q] Pr ([Value.ref q].toArray) U) (hRm : d + 1 ≤ R.frames ∧ 64 * (d + 1) ≤ R.locals) (hla : la.size = 4) (hr : (rest.map fun v => v.category).sum ≤ 8) (hd : decode code pc = .ok (.invokespecial x, 3)) (hf : cells + mc ≤ R.cells ∧ slots + ms ≤ R.slots) :
    va_Run p l e R s m args below meth c H locs cells slots mc ms (F0 m pc la (.ref q :: rest)) rest (Qc [Value.ref q].toArray) fr := by
  obtain ⟨m1, m2, m3⟩ := mem3 hk
  obtain ⟨y1, y2, y3, y4, y5, y6, y7⟩ := cY_ok ⟨k, hk⟩
  simp only at y1 y2 y3 y4 y5 y6 y7
  have hgood : GoodIn tbg (Cond.code (cY k) (cB k) (cL k) none :: tbg) := by
    intro w hw
    have h : w ∈ tbg := by
      rcases List.mem_cons.mp hw with rfl | h
      · exact cc_in hk
      · exact h
    exact ⟨h, good_of_word (List.mem_filter.mp h).2⟩
  have hRm : (rmC d mc ms).frames + 1 ≤ R.frames ∧ 8 + (cL k + 11) + (rmC d mc ms).locals ≤ R.locals := by
    constructor
    · show d + 1 ≤ _
      omega
    · show 8 + (cL k + 11) + 64 * d ≤ _
      omega
  have hst9 : (F0 m pc la (.ref q :: rest)).stack = ([] : List Value).reverse ++ Value.ref q :: rest := rfl
  have hd' : decode code (F0 m pc la (.ref q :: rest)).pc = .ok (.invokespecial x, 3) := hd
  exact va_runI (own := cnm 19) (As := []) (b := q) ⟨hx, hb, hml, hown, htg⟩ hM (cwI (cP k) htg hgood rfl rfl rfl (by rw [y2]; exact htg _ m2) (htg _ (CMT_in _ (List.mem_map.mpr ⟨_, he, rfl⟩))) (htg _ m1) y3 ⟨y4, y5, y6⟩ hRm) hp rfl (show ([] : List Value).length = cP k from hP0.symm) hla hst9 (lv_room hr) hd' hf
end LAWN
