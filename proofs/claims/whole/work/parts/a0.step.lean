/-! a0: one step of a plain instruction, for any room and any end (written by wip/whole/agen.py) -/
def plI (i : Instr) : Bool := match i with
  | .goto_w _ => false
  | .dcmp _ => false
  | .fcmp _ => false
  | .monitorenter => false
  | .multianewarray _ _ => false
  | .invokeinterface _ _ => false
  | .ireturn => false
  | .lreturn => false
  | .return_ => false
  | .freturn => false
  | .invokevirtual _ => false
  | .anewarray _ => false
  | _ => true
theorem RnG.jump {d : XR} {j pc t : Nat} {ls st : List AV} {σ : Mem} {K : YQ} (e : (t : Int) = (pc : Int)) (h : RnG d j t ls st σ K) : RnG d j pc ls st σ K := by
  have : t = pc := by omega
  rw [← this]; exact h
set_option maxHeartbeats 4000000 in
set_option maxRecDepth 100000 in
theorem stp_ok {X : XR} {Y : YQ} {d j pc q : Nat} {K : Option AV → Mem → Prop} {i : Instr} {nx : List AV → List AV → Mem → Prop} {jp : Nat → List AV → List AV → Mem → Prop} {ls st : List AV} {σ : Mem} (hp : plI i = true) (hc1 : chk (mL j) i = true) (hc2 : fchk i = true) (hq : nxt (mC j) (mB j) pc (fraw i) = some q)
    (go : ∀ {ls st : List AV} {σ : Mem}, nx ls st σ → RnG X j q ls st σ Y) (gj : ∀ (t : Nat) {ls st : List AV} {σ : Mem}, jp t ls st σ → RnG X j t ls st σ Y) (h : stp d j K i nx jp ls st σ) : RnG X j pc ls st σ Y := by
  cases i with
  | iload k =>
    dsimp only [stp] at h
    replace h := getI_of h
    obtain ⟨a, e1, h⟩ := h
    exact R_iload hq e1 (go h)
  | lload k =>
    dsimp only [stp] at h
    replace h := getL_of h
    obtain ⟨a, e1, h⟩ := h
    exact R_lload hq e1 (go h)
  | aload k =>
    dsimp only [stp] at h
    replace h := getR_of h
    obtain ⟨a, e1, h⟩ := h
    exact R_aload hq e1 (go h)
  | istore k =>
    dsimp only [stp] at h
    replace h := popI_of h
    obtain ⟨a, r, rfl, h⟩ := h
    exact R_istore hq (of_decide_eq_true hc1) (go h)
  | lstore k =>
    dsimp only [stp] at h
    replace h := popL_of h
    obtain ⟨a, r, rfl, h⟩ := h
    exact R_lstore hq (of_decide_eq_true hc1) (go h)
  | astore k =>
    dsimp only [stp] at h
    replace h := popR_of h
    obtain ⟨a, b, r, rfl, h⟩ := h
    exact R_astore hq (of_decide_eq_true hc1) (go h)
  | iinc k v =>
    dsimp only [stp] at h
    replace h := getI_of h
    obtain ⟨a, e1, h⟩ := h
    exact R_iinc hq e1 (of_decide_eq_true hc1) (go h)
  | sipush v =>
    dsimp only [stp] at h
    exact R_iconst hq (go h)
  | jsr_w v =>
    dsimp only [stp] at h
    exact R_lconst hq (go h)
  | goto t =>
    dsimp only [stp] at h
    have ht : ((t.toNat : Nat) : Int) = t := by
      simp only [fraw, nxt] at hq
      split at hq
      · rename_i h9
        simp only [Bool.and_eq_true, decide_eq_true_eq] at h9
        omega
      · cases hq
    rw [show Instr.goto t = Instr.goto ((t.toNat : Nat) : Int) from by rw [ht]] at hq
    exact R_goto hq (gj _ h)
  | jsr t =>
    dsimp only [stp] at h
    simp only [fraw, nxt] at hq
    split at hq
    · rename_i h9
      refine RnG.jump (t := t.toNat) (by omega) (gj _ h)
    · cases hq
  | if_icmp cc t =>
    dsimp only [stp] at h
    have ht : ((t.toNat : Nat) : Int) = t := by
      simp only [fraw, nxt] at hq
      split at hq
      · rename_i h9
        simp only [Bool.and_eq_true, decide_eq_true_eq] at h9
        omega
      · cases hq
    rw [show Instr.if_icmp cc t = Instr.if_icmp cc ((t.toNat : Nat) : Int) from by rw [ht]] at hq
    replace h := popI_of h
    obtain ⟨b, r, rfl, h⟩ := h
    replace h := popI_of h
    obtain ⟨a, r, rfl, h⟩ := h
    obtain ⟨h1, h2, h3, h4⟩ := h
    exact R_icmp hq h1 h2 (fun x => gj _ (h3 x)) (fun x => go (h4 x))
  | ifCond cc t =>
    dsimp only [stp] at h
    have ht : ((t.toNat : Nat) : Int) = t := by
      simp only [fraw, nxt] at hq
      split at hq
      · rename_i h9
        simp only [Bool.and_eq_true, decide_eq_true_eq] at h9
        omega
      · cases hq
    rw [show Instr.ifCond cc t = Instr.ifCond cc ((t.toNat : Nat) : Int) from by rw [ht]] at hq
    replace h := popI_of h
    obtain ⟨a, r, rfl, h⟩ := h
    obtain ⟨h1, h3, h4⟩ := h
    exact R_if hq h1 (fun x => gj _ (h3 x)) (fun x => go (h4 x))
  | iadd =>
    dsimp only [stp] at h
    replace h := popI_of h
    obtain ⟨b, r, rfl, h⟩ := h
    replace h := popI_of h
    obtain ⟨a, r, rfl, h⟩ := h
    exact R_iadd hq (go h)
  | isub =>
    dsimp only [stp] at h
    replace h := popI_of h
    obtain ⟨b, r, rfl, h⟩ := h
    replace h := popI_of h
    obtain ⟨a, r, rfl, h⟩ := h
    exact R_isub hq (go h)
  | imul =>
    dsimp only [stp] at h
    replace h := popI_of h
    obtain ⟨b, r, rfl, h⟩ := h
    replace h := popI_of h
    obtain ⟨a, r, rfl, h⟩ := h
    exact R_imul hq (go h)
  | iand =>
    dsimp only [stp] at h
    replace h := popI_of h
    obtain ⟨b, r, rfl, h⟩ := h
    replace h := popI_of h
    obtain ⟨a, r, rfl, h⟩ := h
    exact R_iand hq (go h)
  | ior =>
    dsimp only [stp] at h
    replace h := popI_of h
    obtain ⟨b, r, rfl, h⟩ := h
    replace h := popI_of h
    obtain ⟨a, r, rfl, h⟩ := h
    exact R_ior hq (go h)
  | ixor =>
    dsimp only [stp] at h
    replace h := popI_of h
    obtain ⟨b, r, rfl, h⟩ := h
    replace h := popI_of h
    obtain ⟨a, r, rfl, h⟩ := h
    exact R_ixor hq (go h)
  | ishl =>
    dsimp only [stp] at h
    replace h := popI_of h
    obtain ⟨b, r, rfl, h⟩ := h
    replace h := popI_of h
    obtain ⟨a, r, rfl, h⟩ := h
    exact R_ishl hq (go h)
  | ishr =>
    dsimp only [stp] at h
    replace h := popI_of h
    obtain ⟨b, r, rfl, h⟩ := h
    replace h := popI_of h
    obtain ⟨a, r, rfl, h⟩ := h
    exact R_ishr hq (go h)
  | iushr =>
    dsimp only [stp] at h
    replace h := popI_of h
    obtain ⟨b, r, rfl, h⟩ := h
    replace h := popI_of h
    obtain ⟨a, r, rfl, h⟩ := h
    exact R_iushr hq (go h)
  | idiv =>
    dsimp only [stp] at h
    replace h := popI_of h
    obtain ⟨b, r, rfl, h⟩ := h
    replace h := popI_of h
    obtain ⟨a, r, rfl, h⟩ := h
    exact R_idiv hq h.1 h.2.1 h.2.2.1 (go h.2.2.2)
  | irem =>
    dsimp only [stp] at h
    replace h := popI_of h
    obtain ⟨b, r, rfl, h⟩ := h
    replace h := popI_of h
    obtain ⟨a, r, rfl, h⟩ := h
    exact R_irem hq h.1 h.2.1 h.2.2.1 (go h.2.2.2)
  | ladd =>
    dsimp only [stp] at h
    replace h := popL_of h
    obtain ⟨b, r, rfl, h⟩ := h
    replace h := popL_of h
    obtain ⟨a, r, rfl, h⟩ := h
    exact R_ladd hq (go h)
  | lsub =>
    dsimp only [stp] at h
    replace h := popL_of h
    obtain ⟨b, r, rfl, h⟩ := h
    replace h := popL_of h
    obtain ⟨a, r, rfl, h⟩ := h
    exact R_lsub hq (go h)
  | lmul =>
    dsimp only [stp] at h
    replace h := popL_of h
    obtain ⟨b, r, rfl, h⟩ := h
    replace h := popL_of h
    obtain ⟨a, r, rfl, h⟩ := h
    exact R_lmul hq (go h)
  | land =>
    dsimp only [stp] at h
    replace h := popL_of h
    obtain ⟨b, r, rfl, h⟩ := h
    replace h := popL_of h
    obtain ⟨a, r, rfl, h⟩ := h
    exact R_land hq (go h)
  | lor =>
    dsimp only [stp] at h
    replace h := popL_of h
    obtain ⟨b, r, rfl, h⟩ := h
    replace h := popL_of h
    obtain ⟨a, r, rfl, h⟩ := h
    exact R_lor hq (go h)
  | ldiv =>
    dsimp only [stp] at h
    replace h := popL_of h
    obtain ⟨b, r, rfl, h⟩ := h
    replace h := popL_of h
    obtain ⟨a, r, rfl, h⟩ := h
    exact R_ldiv hq h.1 h.2.1 h.2.2.1 (go h.2.2.2)
  | lrem =>
    dsimp only [stp] at h
    replace h := popL_of h
    obtain ⟨b, r, rfl, h⟩ := h
    replace h := popL_of h
    obtain ⟨a, r, rfl, h⟩ := h
    exact R_lrem hq h.1 h.2.1 h.2.2.1 (go h.2.2.2)
  | lshl =>
    dsimp only [stp] at h
    replace h := popI_of h
    obtain ⟨b, r, rfl, h⟩ := h
    replace h := popL_of h
    obtain ⟨a, r, rfl, h⟩ := h
    exact R_lshl hq (go h)
  | lshr =>
    dsimp only [stp] at h
    replace h := popI_of h
    obtain ⟨b, r, rfl, h⟩ := h
    replace h := popL_of h
    obtain ⟨a, r, rfl, h⟩ := h
    exact R_lshr hq (go h)
  | i2l =>
    dsimp only [stp] at h
    replace h := popI_of h
    obtain ⟨a, r, rfl, h⟩ := h
    exact R_i2l hq h.1 (go h.2)
  | l2i =>
    dsimp only [stp] at h
    replace h := popL_of h
    obtain ⟨a, r, rfl, h⟩ := h
    exact R_l2i hq (go h)
  | i2b =>
    dsimp only [stp] at h
    replace h := popI_of h
    obtain ⟨a, r, rfl, h⟩ := h
    exact R_i2b hq (go h)
  | i2s =>
    dsimp only [stp] at h
    replace h := popI_of h
    obtain ⟨a, r, rfl, h⟩ := h
    exact R_i2s hq (go h)
  | i2c =>
    dsimp only [stp] at h
    replace h := popI_of h
    obtain ⟨a, r, rfl, h⟩ := h
    exact R_i2c hq (go h)
  | lcmp =>
    dsimp only [stp] at h
    replace h := popL_of h
    obtain ⟨b, r, rfl, h⟩ := h
    replace h := popL_of h
    obtain ⟨a, r, rfl, h⟩ := h
    exact R_lcmp hq h.1 h.2.1 (go h.2.2)
  | dup =>
    dsimp only [stp] at h
    replace h := popV_of h
    obtain ⟨a, r, rfl, h⟩ := h
    exact R_dup hq h.1 (go h.2)
  | pop =>
    dsimp only [stp] at h
    replace h := popV_of h
    obtain ⟨a, r, rfl, h⟩ := h
    exact R_pop hq h.1 (go h.2)
  | pop2 =>
    dsimp only [stp] at h
    replace h := popV_of h
    obtain ⟨a, r, rfl, h⟩ := h
    exact R_pop2L hq h.1 (go h.2)
  | dup2 =>
    dsimp only [stp] at h
    replace h := popV_of h
    obtain ⟨a, r, rfl, h⟩ := h
    split at h
    · rename_i h9
      exact R_dup2L hq h9 (go h)
    · rename_i h9
      replace h := popV_of h
      obtain ⟨b, r, rfl, h⟩ := h
      exact R_dup2 hq (by simpa using h9) h.1 (go h.2)
  | getfield x =>
    dsimp only [stp] at h
    simp only [fchk, Bool.and_eq_true, decide_eq_true_eq, Bool.or_eq_true, beq_iff_eq] at hc2
    replace h := popR_of h
    obtain ⟨a, i, r, rfl, rfl, h1, h⟩ := h
    refine R_getf hq hc2.1 h1 (fdk_some rfl (by omega)) (go ?_)
    rw [show frd σ (x / 64) i (x % 64) (fdk x) = .inl (σ (x / 64) i (x % 64)) from by
      unfold frd
      rcases hc2.2 with e | e <;> simp [e]]
    exact h
  | getstatic x =>
    dsimp only [stp] at h
    simp only [fchk, Bool.and_eq_true, decide_eq_true_eq, Bool.or_eq_true, beq_iff_eq] at hc2
    replace h := popR_of h
    obtain ⟨a, i, r, rfl, rfl, h1, h⟩ := h
    refine R_getf hq hc2.1 h1 (fdk_some rfl (by omega)) (go ?_)
    rw [show frd σ (x / 64) i (x % 64) (fdk x) = .inr (.inl (σ (x / 64) i (x % 64))) from by
      unfold frd
      simp [hc2.2]]
    exact h
  | checkcast y =>
    dsimp only [stp] at h
    simp only [fchk, Bool.and_eq_true, decide_eq_true_eq, Bool.or_eq_true, beq_iff_eq] at hc2
    replace h := popR_of h
    obtain ⟨a, i, r, rfl, rfl, h1, h⟩ := h
    refine R_getf (x := y / 2048) hq hc2.1 h1 (fdk_some hc2.2 (show ¬ (3 : Nat) = 9 by decide)) (go ?_)
    exact h
  | instanceof x =>
    dsimp only [stp] at h
    simp only [fchk, Bool.and_eq_true, decide_eq_true_eq, Bool.or_eq_true, beq_iff_eq] at hc2
    replace h := popR_of h
    obtain ⟨a, i, r, rfl, rfl, h1, h⟩ := h
    refine R_getf hq hc2.1 h1 (fdk_some hc2.2 (by decide)) (go ?_)
    exact h
  | putfield x =>
    dsimp only [stp] at h
    simp only [fchk, Bool.and_eq_true, decide_eq_true_eq, beq_iff_eq] at hc2
    replace h := popI_of h
    obtain ⟨v, r, rfl, h⟩ := h
    replace h := popR_of h
    obtain ⟨a, i, r, rfl, rfl, h1, h⟩ := h
    exact R_putf hq hc2.1 h1 (fdk_some rfl (by omega)) (v := .inl v) (Or.inl hc2.2) (go h)
  | putstatic x =>
    dsimp only [stp] at h
    simp only [fchk, Bool.and_eq_true, decide_eq_true_eq, beq_iff_eq] at hc2
    replace h := popI_of h
    obtain ⟨v, r, rfl, h⟩ := h
    replace h := popR_of h
    obtain ⟨a, i, r, rfl, rfl, h1, h⟩ := h
    exact R_putf hq hc2.1 h1 (fdk_some rfl (by omega)) (v := .inl v) (Or.inr ⟨hc2.2, h.1⟩) (go h.2)
  | dstore x =>
    dsimp only [stp] at h
    simp only [fchk, Bool.and_eq_true, decide_eq_true_eq, beq_iff_eq] at hc2
    replace h := popL_of h
    obtain ⟨v, r, rfl, h⟩ := h
    replace h := popR_of h
    obtain ⟨a, i, r, rfl, rfl, h1, h⟩ := h
    exact R_putf hq hc2.1 h1 (fdk_some rfl (by omega)) (v := .inr (.inl v)) hc2.2 (go h)
  | iaload =>
    dsimp only [stp] at h
    replace h := popI_of h
    obtain ⟨z, r, rfl, h⟩ := h
    replace h := popR_of h
    obtain ⟨a, i, r, rfl, h1, h2, h3, h⟩ := h
    replace h1 := akd_of h1
    obtain ⟨k1, k2, k3⟩ := h1
    exact R_iald hq k1 k2 h2 k3 h3 (go h)
  | laload =>
    dsimp only [stp] at h
    replace h := popI_of h
    obtain ⟨z, r, rfl, h⟩ := h
    replace h := popR_of h
    obtain ⟨a, i, r, rfl, h1, h2, h3, h⟩ := h
    replace h1 := akd_of h1
    obtain ⟨k1, k2, k3⟩ := h1
    exact R_lald hq k1 k2 h2 k3 h3 (go h)
  | baload =>
    dsimp only [stp] at h
    replace h := popI_of h
    obtain ⟨z, r, rfl, h⟩ := h
    replace h := popR_of h
    obtain ⟨a, i, r, rfl, h1, h2, h3, h⟩ := h
    rcases h1 with h1 | h1
    · obtain ⟨k1, k2, k3⟩ := akd_of h1
      exact R_bald hq k1 k2 h2 k3 h3 (go h)
    · obtain ⟨k1, k2, k3⟩ := akd_of h1
      exact R_zald hq k1 k2 h2 k3 h3 (go h)
  | aaload =>
    dsimp only [stp] at h
    replace h := popI_of h
    obtain ⟨z, r, rfl, h⟩ := h
    replace h := popR_of h
    obtain ⟨a, i, r, rfl, h1, h2, h3, h⟩ := h
    rcases h1 with h1 | h1 | h1
    · obtain ⟨k1, k2, k3⟩ := akd_of h1
      exact R_aald4 hq k1 k2 h2 k3 h3 (go h)
    · obtain ⟨k1, k2, k3⟩ := akd_of h1
      exact R_aald5 hq k1 k2 h2 k3 h3 (go h)
    · obtain ⟨k1, k2, k3⟩ := akd_of h1
      exact R_aald6 hq k1 k2 h2 k3 h3 (go h)
  | iastore =>
    dsimp only [stp] at h
    replace h := popI_of h
    obtain ⟨v, r, rfl, h⟩ := h
    replace h := popI_of h
    obtain ⟨z, r, rfl, h⟩ := h
    replace h := popR_of h
    obtain ⟨a, i, r, rfl, h1, h2, h3, h⟩ := h
    replace h1 := akd_of h1
    obtain ⟨k1, k2, k3⟩ := h1
    exact R_iast hq k1 k2 h2 k3 h3 (go h)
  | lastore =>
    dsimp only [stp] at h
    replace h := popL_of h
    obtain ⟨v, r, rfl, h⟩ := h
    replace h := popI_of h
    obtain ⟨z, r, rfl, h⟩ := h
    replace h := popR_of h
    obtain ⟨a, i, r, rfl, h1, h2, h3, h⟩ := h
    replace h1 := akd_of h1
    obtain ⟨k1, k2, k3⟩ := h1
    exact R_last hq k1 k2 h2 k3 h3 (go h)
  | bastore =>
    dsimp only [stp] at h
    replace h := popI_of h
    obtain ⟨v, r, rfl, h⟩ := h
    replace h := popI_of h
    obtain ⟨z, r, rfl, h⟩ := h
    replace h := popR_of h
    obtain ⟨a, i, r, rfl, h1, h2, h3, h⟩ := h
    rcases h1 with ⟨h1, h4⟩ | ⟨h1, h4⟩
    · obtain ⟨k1, k2, k3⟩ := akd_of h1
      exact R_bast hq k1 k2 h2 k3 h3 h4 (go h)
    · obtain ⟨k1, k2, k3⟩ := akd_of h1
      exact R_zast hq k1 k2 h2 k3 h3 h4 (go h)
  | arraylength =>
    dsimp only [stp] at h
    replace h := popR_of h
    obtain ⟨a, i, r, rfl, h1, h2, h3, h4, h⟩ := h
    exact R_alen hq h1 h2 h4 h3 (go h)
  | tableswitch dd lo hi offs =>
    dsimp only [stp] at h
    replace h := popI_of h
    obtain ⟨x, r, rfl, h1, h2, h3⟩ := h
    exact R_tsw hq h1 (fun e => gj _ (h2 e)) (swt_mono (fun t ht => gj _ ht) _ _ h3)
  | ldc n =>
    dsimp only [stp] at h
    exact R_ldcS hq (go h)
  | ldc_w x =>
    dsimp only [stp] at h
    replace h := popR_of h
    obtain ⟨a, n, r, rfl, rfl, h⟩ := h
    replace h := popR_of h
    obtain ⟨a, i, r, rfl, rfl, h1, h⟩ := h
    exact R_putP hq hc2 h1 (go h)
  | ldc2_w k =>
    dsimp only [stp] at h
    replace h := popI_of h
    obtain ⟨a, r, rfl, h⟩ := h
    exact R_i2lm hq (go h)
  | lookupswitch dd ps =>
    dsimp only [stp] at h
    replace h := popI_of h
    obtain ⟨x, r, rfl, h1, h2⟩ := h
    exact R_lsw hq h1 (lsw_mono (fun t ht => gj _ ht) _ h2)
  | goto_w _ => cases hp
  | dcmp _ => cases hp
  | fcmp _ => cases hp
  | monitorenter => cases hp
  | multianewarray _ _ => cases hp
  | invokeinterface _ _ => cases hp
  | ireturn => cases hp
  | lreturn => cases hp
  | return_ => cases hp
  | freturn => cases hp
  | invokevirtual _ => cases hp
  | anewarray _ => cases hp
  | _ => exact h.elim
