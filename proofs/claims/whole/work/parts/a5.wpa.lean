/-! a5: bodies that make: one proposition each (wpA), and that it tells the truth -/
theorem W_wide {p : Program} {l : Launch} {e : Env} {R : Room} {s : State} {m : MethodId} {args : Array Value} {below : List Frame} {meth : Method} {c : Code} {H : Heap} {locs : List Loc} {cells slots cells' slots' : Nat} {Q : State → Prop} {g : JFrame} (hc : cells ≤ cells') (hs : slots ≤ slots') (h : W p l e R s m args below meth c H locs cells' slots' Q g) : W p l e R s m args below meth c H locs cells slots Q g := fun T hT X => h T hT (X.mono hc hs)
theorem RnG.wide {R : Room} {c s c' s' j pc : Nat} {ls st : List AV} {σ : Mem} {Y : YQ} (hc : c ≤ c') (hs : s ≤ s') (h : RnG (R, c', s') j pc ls st σ Y) : RnG (R, c, s) j pc ls st σ Y := fun p l e s0 m args below meth c0 D dA ρ A H locs la C hl hP hD hS => W_wide hc hs (h p l e s0 m args below meth c0 D dA ρ A H locs la C hl hP hD hS)
/-- the script, where the law can read it -/
def SX (XL : Nat) (XS : Int → Int) (ρ : Rho) (s : State) (A : Nat → Prop) : Prop := va_X (ρ 65 0) XL (fun j => Int32.ofInt (XS (j : Int))) s s.heap ∧ ρ 65 0 < s.heap.size ∧ ¬ A (ρ 65 0)
def sxY (XL : Nat) (XS : Int → Int) (Y : YQ) : Prop := XL < 2147483648 ∧ ∀ (below : List Frame) (args : Array Value) (s : State) (D : va_G) (dA : Nat → ClassId) (ρ : Rho) (A : Nat → Prop) (t : State), ¬ SX XL XS ρ s A → Y below args s D dA ρ A t
def isRV (v : AV) : Bool := match v with
  | .inr (.inr _) => true
  | _ => false
def nxA (oc : Nat) (cc : ByteArray) (pc : Nat) (i : Instr) : Option Nat := match i with
  | .invokespecial x => nxt oc cc pc (.invokeinterface x (mP (x / 16)))
  | .new _ => if (CLT.any (fun e => e.1 == oc && e.2.2 == 3 && dOk cc pc (.new e.2.1) 3)) && dOk cc (pc + 3) .dup 1 && (CMN.any (fun e => e.1 == oc && e.2.2 == 3 && dOk cc (pc + 4) (.invokespecial e.2.1) 3)) then some (pc + 7) else none
  | .fload Kd => if oc == 4 && dOk cc pc (.invokestatic 190) 3 && (FLN.any (fun e => e.1 == oc && e.2.2.1 == 3 && (e.2.2.2 == 3 || e.2.2.2 == 4) && Kd == 21 + e.2.2.2 && dOk cc (pc + 3) (.putfield e.2.1) 3)) then some (pc + 6) else none
  | .aconst_null => if dOk cc pc .aconst_null 1 then some (pc + 1) else none
  | .areturn => if dOk cc pc .areturn 1 then some (pc + 1) else none
  | .ifnonnull t => if decide (0 ≤ t) && dOk cc pc (.astore_n 2) 1 && dOk cc (pc + 1) (.aload_n 2) 1 && dOk cc (pc + 2) (.ifnonnull (t - ((pc + 2 : Nat) : Int))) 3 then some (pc + 5) else none
  | .faload => if dOk cc pc .iaload 1 then some (pc + 1) else none
  | .caload => if dOk cc pc .arraylength 1 then some (pc + 1) else none
  | i => nxt oc cc pc (fraw i)
def ckA (mx : Nat) (i : Instr) : Bool := match i with
  | .invokespecial x => decide (x % 16 < 13)
  | .ifnonnull _ => decide (2 < mx)
  | i => chk mx i && fchk i
def boA (oc : Nat) (cc : ByteArray) (mx : Nat) : Nat → List Instr → Bool
  | _, [] => true
  | pc, i :: r => ckA mx i && match nxA oc cc pc i with
    | some q => boA oc cc mx q r
    | none => false
/-- plan pointers point at plans -/
def ppn (σ : Mem) : Prop := 0 ≤ σ 60 0 0 ∧ (∀ w, w < 4 → ¬ (σ 10 w 3).toNat = npl σ) ∧ ¬ (σ 4 0 9).toNat = npl σ
def stA (R : Room) (d j : Nat) (Y : YQ) (T : Nat → Nat → Option AV → Mem → Prop) (XL : Nat) (XS : Int → Int) (i : Instr) (nx : Nat → Nat → List AV → List AV → Mem → Prop) (jp : Nat → Nat → Nat → List AV → List AV → Mem → Prop) (c s : Nat) (ls st : List AV) (σ : Mem) : Prop := match i with
  | .goto_w t => RnG (R, c, s) j t.toNat ls st σ Y
  | .dcmp .g => popI st (fun b r => popI r (fun a r => in32 a ∧ in32 b ∧ r.length ≤ 4 ∧ nx c s ls (.inl (imax a b) :: r) σ))
  | .dcmp .l => popI st (fun b r => popI r (fun a r => in32 a ∧ in32 b ∧ r.length ≤ 4 ∧ nx c s ls (.inl (imin a b) :: r) σ))
  | .multianewarray x n => tk n st [] (fun av r => r.length ≤ 4 ∧ Ev d x av σ (fun v σ' => nx c s ls (psh v r) σ'))
  | .invokeinterface x n => tk n st [] (fun av r => popR r (fun a i r => a = x % 16 ∧ i < cnt σ (x % 16) ∧ r.length ≤ 4 ∧ Ev d (x / 16) (.inr (.inr (some (x % 16, i))) :: av) σ (fun v σ' => nx c s ls (psh v r) σ')))
  | .invokespecial x => tk (mP (x / 16)) st [] (fun av r => popR r (fun a i r => a = x % 16 ∧ i < cnt σ (x % 16) ∧ r.length ≤ 4 ∧ nrl ls = true ∧ nrl r = true ∧ ∃ mc ms, c + mc ≤ R.cells ∧ s + ms ≤ R.slots ∧ EvA d mc ms (x / 16) (.inr (.inr (some (x % 16, i))) :: av) σ (fun v σ' => nx (c + mc) (s + ms) ls (psh v r) σ')))
  | .new _ => nrl ls = true ∧ nrl st = true ∧ st.length ≤ 3 ∧ ppn σ ∧ c + 6 ≤ R.cells ∧ s + 60 ≤ R.slots ∧ nx (c + 6) (s + 60) ls (.inr (.inr (some (3, npl σ))) :: st) (newP σ)
  | .fload Kd => popI st (fun n r => popR r (fun a i r => popR r (fun b k r => a = 26 ∧ i = 0 ∧ b = 3 ∧ k < npl σ ∧ 0 ≤ n ∧ n < 900 ∧ nrl ls = true ∧ nrl r = true ∧ r.length ≤ 3 ∧ c + 1 ≤ R.cells ∧ s + n.toNat ≤ R.slots ∧ nx (c + 1) (s + n.toNat) ls r (cpyM σ Kd k n.toNat))))
  | .aconst_null => nx c s ls (.inr (.inr none) :: st) σ
  | .areturn => popV st (fun v r => r = [] ∧ isRV v = true ∧ T c s (some v) σ)
  | .ireturn => popI st (fun a r => r = [] ∧ T c s (some (.inl a)) σ)
  | .ifnonnull t => popV st (fun v r => isRV v = true ∧ (∀ q, v = .inr (.inr (some q)) → jp t.toNat c s (ls1 ls 2 v) r σ) ∧ (v = .inr (.inr none) → nx c s (ls1 ls 2 v) r σ))
  | .faload => popI st (fun z r => popR r (fun a i r => a = 65 ∧ i = 0 ∧ sxY XL XS Y ∧ 0 ≤ z ∧ z < (XL : Int) ∧ nx c s ls (.inl (XS z) :: r) σ))
  | .caload => popR st (fun a i r => a = 65 ∧ i = 0 ∧ sxY XL XS Y ∧ nx c s ls (.inl (XL : Int) :: r) σ)
  | i => plI i = true ∧ stp 0 j (fun _ _ => False) i (nx c s) (fun t => jp t c s) ls st σ
def wpA (R : Room) (d j : Nat) (B : Nat → List Instr) (Y : YQ) (T : Nat → Nat → Option AV → Mem → Prop) (XL : Nat) (XS : Int → Int) : Nat → List Instr → Nat → Nat → List AV → List AV → Mem → Prop
  | 0, _, _, _, _, _, _ => False
  | _ + 1, [], _, _, _, _, _ => False
  | n + 1, i :: r, c, s, ls, st, σ => stA R d j Y T XL XS i (wpA R d j B Y T XL XS n r) (fun t => wpA R d j B Y T XL XS n (B t)) c s ls st σ
/-- the plain instructions -/
def plA (i : Instr) : Bool := match i with
  | .goto_w _ => false
  | .dcmp _ => false
  | .multianewarray _ _ => false
  | .invokeinterface _ _ => false
  | .invokespecial _ => false
  | .new _ => false
  | .fload _ => false
  | .aconst_null => false
  | .areturn => false
  | .ireturn => false
  | .ifnonnull _ => false
  | .faload => false
  | .caload => false
  | _ => true
section SOUNDA
variable {X : XR} {Y : YQ} {j pc pc' : Nat} {ls st : List AV} {σ : Mem}
theorem R_nullA (h : decode (mB j) pc = .ok (.aconst_null, 1)) (hk : RnG X j (pc + 1) ls (.inr (.inr none) :: st) σ Y) : RnG X j pc ls st σ Y := by
  intro p l e s m args below meth c D dA ρ A H locs la C hl hP hD hS
  exact lv_null C.1 C.2.1 h (hk p l e s m args below meth c D dA ρ A H locs la C hl hP hD hS)
theorem R_slenA {XL : Nat} {XS : Int → Int} (h : decode (mB j) pc = .ok (.arraylength, 1)) (hy : sxY XL XS Y) (hk : RnG X j (pc + 1) ls (.inl (XL : Int) :: st) σ Y) : RnG X j pc ls (.inr (.inr (some (65, 0))) :: st) σ Y := by
  intro p l e s m args below meth c D dA ρ A H locs la C hl hP hD hS
  by_cases hSX : SX XL XS ρ s A
  · exact va_slen C.1 C.2.1 hSX.1 hSX.2.1 hSX.2.2 hS h (hk p l e s m args below meth c D dA ρ A H locs la C hl hP hD hS)
  · intro T hT X9
    exact ⟨_, Steps.refl _, hy.2 below args s D dA ρ A _ hSX⟩
theorem R_sldA {XL : Nat} {XS : Int → Int} {z : Int} (h : decode (mB j) pc = .ok (.iaload, 1)) (hy : sxY XL XS Y) (h0 : 0 ≤ z) (h1 : z < (XL : Int)) (hk : RnG X j (pc + 1) ls (.inl (XS z) :: st) σ Y) : RnG X j pc ls (.inl z :: .inr (.inr (some (65, 0))) :: st) σ Y := by
  intro p l e s m args below meth c D dA ρ A H locs la C hl hP hD hS
  by_cases hSX : SX XL XS ρ s A
  · have hy1 := hy.1
    have hz : in32 z := ⟨by omega, by omega⟩
    have e1 : (Int32.ofInt z).toNatClampNeg = z.toNat := by
      show (Int32.ofInt z).toInt.toNat = z.toNat
      rw [i32 hz]
    have hin : vp_in (Int32.ofInt z) XL := by
      unfold vp_in
      rw [e1]
      rintro (hx | hx)
      · have h9 := Int32.lt_iff_toInt_lt.mp hx
        rw [i32 hz] at h9
        have e0 : (0 : Int32).toInt = 0 := rfl
        omega
      · omega
    refine va_sld C.1 C.2.1 hSX.1 hSX.2.1 hSX.2.2 hS hin h ?_
    have G := hk p l e s m args below meth c D dA ρ A H locs la C hl hP hD hS
    rw [e1]
    have e2 : ((z.toNat : Nat) : Int) = z := by omega
    rw [e2]
    exact G
  · intro T hT X9
    exact ⟨_, Steps.refl _, hy.2 below args s D dA ρ A _ hSX⟩
theorem R_nnA {t : Int} {q : Nat × Nat} (h1 : decode (mB j) pc = .ok (.astore_n 2, 1)) (h2 : decode (mB j) (pc + 1) = .ok (.aload_n 2, 1)) (h3 : decode (mB j) (pc + 2) = .ok (.ifnonnull (t - ((pc + 2 : Nat) : Int)), 3)) (h0 : 0 ≤ t) (hm : 2 < mL j) (hk : RnG X j t.toNat (ls1 ls 2 (.inr (.inr (some q)))) st σ Y) : RnG X j pc ls (.inr (.inr (some q)) :: st) σ Y := by
  intro p l e s m args below meth c D dA ρ A H locs la C hl hP hD hS
  refine lv_astore_n C.1 C.2.1 h1 rfl hl hm rfl (fun la' hl' => ?_)
  have hl2 := lv_set1 (v := .inr (.inr (some q))) hl'
  have hg : la'[2]? = some (.val (.ref (ρ q.1 q.2))) := hl'.2.2 (2, .ref (ρ q.1 q.2)) List.mem_cons_self
  refine lv_aload_n C.1 C.2.1 h2 rfl hg ?_
  exact lv_ifnonnull C.1 C.2.1 h3 (tgt := t.toNat) (by omega) (hk p l e s m args below meth c D dA ρ A H locs la' C hl2 hP hD hS)
theorem R_nnN {t : Int} (h1 : decode (mB j) pc = .ok (.astore_n 2, 1)) (h2 : decode (mB j) (pc + 1) = .ok (.aload_n 2, 1)) (h3 : decode (mB j) (pc + 2) = .ok (.ifnonnull (t - ((pc + 2 : Nat) : Int)), 3)) (hm : 2 < mL j) (hk : RnG X j (pc + 5) (ls1 ls 2 (.inr (.inr none))) st σ Y) : RnG X j pc ls (.inr (.inr none) :: st) σ Y := by
  intro p l e s m args below meth c D dA ρ A H locs la C hl hP hD hS
  refine lv_astore_nN C.1 C.2.1 h1 rfl hl hm rfl (fun la' hl' => ?_)
  have hl2 := lv_set1 (v := .inr (.inr none)) hl'
  have hg : la'[2]? = some (.val .null) := hl'.2.2 (2, .null) List.mem_cons_self
  refine lv_aload_nN C.1 C.2.1 h2 rfl hg ?_
  exact lv_ifnonnullN C.1 C.2.1 h3 (hk p l e s m args below meth c D dA ρ A H locs la' C hl2 hP hD hS)
end SOUNDA
theorem boA_c {oc : Nat} {cc : ByteArray} {mx pc : Nat} {i : Instr} {r : List Instr} (h : boA oc cc mx pc (i :: r) = true) : ckA mx i = true ∧ ∃ q, nxA oc cc pc i = some q ∧ boA oc cc mx q r = true := by
  simp only [boA, Bool.and_eq_true] at h
  obtain ⟨h1, h2⟩ := h
  cases hq : nxA oc cc pc i with
  | none => rw [hq] at h2; cases h2
  | some q => rw [hq] at h2; exact ⟨h1, q, rfl, h2⟩
theorem ckA_pl {mx : Nat} {i : Instr} (h : plA i = true) : ckA mx i = (chk mx i && fchk i) := by
  cases i <;> first | rfl | cases h
theorem nxA_pl {oc : Nat} {cc : ByteArray} {pc : Nat} {i : Instr} (h : plA i = true) : nxA oc cc pc i = nxt oc cc pc (fraw i) := by
  cases i <;> first | rfl | cases h
theorem stA_pl {R : Room} {d j : Nat} {Y : YQ} {T : Nat → Nat → Option AV → Mem → Prop} {XL : Nat} {XS : Int → Int} {i : Instr} {nx : Nat → Nat → List AV → List AV → Mem → Prop} {jp : Nat → Nat → Nat → List AV → List AV → Mem → Prop} {c s : Nat} {ls st : List AV} {σ : Mem} (h : plA i = true) : stA R d j Y T XL XS i nx jp c s ls st σ = (plI i = true ∧ stp 0 j (fun _ _ => False) i (nx c s) (fun t => jp t c s) ls st σ) := by
  cases i <;> first | rfl | cases h
set_option maxHeartbeats 4000000 in
theorem wpA_ok {R : Room} {d j : Nat} {B : Nat → List Instr} {Y : YQ} {T : Nat → Nat → Option AV → Mem → Prop} {XL : Nat} {XS : Int → Int} (hR : d + 1 ≤ R.frames ∧ 64 * (d + 1) ≤ R.locals ∧ 3 ≤ R.frames ∧ 192 ≤ R.locals) (hm1 : mnY Y) (hm2 : scY Y)
    (hI : ∀ (c s pc : Nat) (ls : List AV) (a : Int) (σ : Mem), decode (mB j) pc = .ok (.ireturn, 1) → T c s (some (.inl a)) σ → RnG (R, c, s) j pc ls [.inl a] σ Y)
    (hA : ∀ (c s pc : Nat) (ls : List AV) (v : Option (Nat × Nat)) (σ : Mem), decode (mB j) pc = .ok (.areturn, 1) → T c s (some (.inr (.inr v))) σ → RnG (R, c, s) j pc ls [.inr (.inr v)] σ Y)
    (hB : ∀ t, boA (mC j) (mB j) (mL j) t (B t) = true) : ∀ (n : Nat) (is : List Instr) (pc c s : Nat) (ls st : List AV) (σ : Mem), boA (mC j) (mB j) (mL j) pc is = true → c ≤ R.cells → s ≤ R.slots → wpA R d j B Y T XL XS n is c s ls st σ → RnG (R, c, s) j pc ls st σ Y := by
  have hR1 : 1 ≤ R.frames ∧ 64 ≤ R.locals := ⟨by omega, by omega⟩
  have hR2 : 2 ≤ R.frames ∧ 128 ≤ R.locals := ⟨by omega, by omega⟩
  have hR3 : 3 ≤ R.frames ∧ 192 ≤ R.locals := hR.2.2
  intro n
  induction n with
  | zero => intro is pc c s ls st σ _ _ _ h; exact h.elim
  | succ n ih =>
    intro is pc c s ls st σ hb hc hs h
    cases is with
    | nil => exact h.elim
    | cons i r0 =>
    obtain ⟨hck, q, hq, hbr⟩ := boA_c hb
    replace h : stA R d j Y T XL XS i (wpA R d j B Y T XL XS n r0) (fun t => wpA R d j B Y T XL XS n (B t)) c s ls st σ := h
    have gj : ∀ (t : Nat) {ls st : List AV} {σ : Mem}, wpA R d j B Y T XL XS n (B t) c s ls st σ → RnG (R, c, s) j t ls st σ Y := fun t _ _ _ h => ih (B t) t c s _ _ _ (hB t) hc hs h
    have go : ∀ {c s : Nat} {ls st : List AV} {σ : Mem}, c ≤ R.cells → s ≤ R.slots → wpA R d j B Y T XL XS n r0 c s ls st σ → RnG (R, c, s) j q ls st σ Y := fun hc hs h => ih r0 q _ _ _ _ _ hbr hc hs h
    by_cases hpl : plA i = true
    · rw [stA_pl hpl] at h
      rw [ckA_pl hpl, Bool.and_eq_true] at hck
      rw [nxA_pl hpl] at hq
      exact stp_ok h.1 hck.1 hck.2 hq (go hc hs) gj h.2
    cases i with
    | goto_w t =>
      have hq : nxt (mC j) (mB j) pc (.goto_w t) = some q := hq
      simp only [nxt] at hq
      split at hq
      · rename_i e9
        subst e9
        exact h
      · cases hq
    | dcmp o =>
      cases o with
      | g =>
        replace h := popI_of h
        obtain ⟨b, r, rfl, h⟩ := h
        replace h := popI_of h
        obtain ⟨a, r, rfl, h1, h2, h3, h⟩ := h
        exact R_imaxG (X := (R, c, s)) hq h1 h2 h3 hR1 hc hs (go hc hs h)
      | l =>
        replace h := popI_of h
        obtain ⟨b, r, rfl, h⟩ := h
        replace h := popI_of h
        obtain ⟨a, r, rfl, h1, h2, h3, h⟩ := h
        exact R_iminG (X := (R, c, s)) hq h1 h2 h3 hR1 hc hs (go hc hs h)
    | multianewarray x k =>
      replace h := tk_of h
      obtain ⟨av, r, h1, rfl, h2, h⟩ := h
      rw [List.append_nil] at h
      exact R_callSG (X := (R, c, s)) hq h1 h2 ⟨hR.1, hR.2.1⟩ hc hs (h.mono (fun _ _ g => go hc hs g))
    | invokeinterface x k =>
      replace h := tk_of h
      obtain ⟨av, r, h1, rfl, h⟩ := h
      rw [List.append_nil] at h
      replace h := popR_of h
      obtain ⟨a, i, r, rfl, rfl, h3, h4, h⟩ := h
      have hck : (chk (mL j) (.invokeinterface x k) && fchk (.invokeinterface x k)) = true := hck
      rw [Bool.and_eq_true] at hck
      exact R_callVG (X := (R, c, s)) hq (of_decide_eq_true hck.1) h3 h1 h4 ⟨hR.1, hR.2.1⟩ hc hs (h.mono (fun _ _ g => go hc hs g))
    | invokespecial x =>
      replace h := tk_of h
      obtain ⟨av, r, h1, rfl, h⟩ := h
      rw [List.append_nil] at h
      replace h := popR_of h
      obtain ⟨a, i, r, rfl, rfl, h3, h4, h5, h6, mc, ms, h7, h8, h⟩ := h
      exact R_callVA (X := (R, c, s)) hq (of_decide_eq_true hck) h3 h1 h4 ⟨hR.1, hR.2.1⟩ h7 h8 hm1 hm2 h5 h6 (h.mono (fun _ _ g => go h7 h8 g))
    | new x =>
      obtain ⟨h1, h2, h3, ⟨h4, h5⟩, h6, h7, h⟩ := h
      simp only [nxA] at hq
      split at hq
      · rename_i e9
        cases hq
        simp only [Bool.and_eq_true, List.any_eq_true, beq_iff_eq] at e9
        obtain ⟨⟨⟨⟨o1, x1, k1⟩, m1, ⟨g1, g2⟩, g3⟩, g4⟩, ⟨⟨o2, x2, k2⟩, m2, ⟨f1, f2⟩, f3⟩⟩ := e9
        simp only at g1 g2 g3 f1 f2 f3
        subst g2 f2 f1
        rw [g1] at m1
        exact R_newP (X := (R, c, s)) rfl (dOk_spec g3) (dOk_spec g4) (dOk_spec f3) m1 m2 hm1 hm2 h1 h2 h3 h4 h5 hR2 h6 h7 (go h6 h7 h)
      · cases hq
    | fload Kd =>
      replace h := popI_of h
      obtain ⟨a, r, rfl, h⟩ := h
      replace h := popR_of h
      obtain ⟨b, i, r, rfl, h⟩ := h
      replace h := popR_of h
      obtain ⟨b2, k, r, rfl, rfl, rfl, rfl, h1, h2, h3, h4, h5, h6, h7, h8, h⟩ := h
      simp only [nxA] at hq
      split at hq
      · rename_i e9
        cases hq
        simp only [Bool.and_eq_true, List.any_eq_true, beq_iff_eq, Bool.or_eq_true] at e9
        obtain ⟨⟨g1, g2⟩, ⟨⟨o1, w, c1, sl⟩, m1, ⟨⟨⟨f1, f2⟩, f3⟩, f4⟩, f5⟩⟩ := e9
        simp only at f1 f2 f3 f4 f5
        subst f2 f1
        have e2 : ((a.toNat : Nat) : Int) = a := by omega
        have G := R_cpy (X := (R, c, s)) (k := k) (n := a.toNat) (st := r) (ls := ls) (σ := σ) (Y := Y) rfl g1 (dOk_spec g2) (dOk_spec f5) m1 f3 f4 h1 (by omega) hm1 h4 h5 h6 hR3 h7 h8 (go h7 h8 h)
        rw [e2] at G
        exact G
      · cases hq
    | aconst_null =>
      simp only [nxA] at hq
      split at hq
      · rename_i e9
        cases hq
        exact R_nullA (dOk_spec e9) (go hc hs h)
      · cases hq
    | areturn =>
      replace h := popV_of h
      obtain ⟨v, r, rfl, rfl, h1, h⟩ := h
      simp only [nxA] at hq
      split at hq
      · rename_i e9
        rcases v with z | z | v
        · cases h1
        · cases h1
        · exact hA c s pc ls v σ (dOk_spec e9) h
      · cases hq
    | ireturn =>
      replace h := popI_of h
      obtain ⟨v, r, rfl, rfl, h⟩ := h
      have hq : nxt (mC j) (mB j) pc .ireturn = some q := hq
      simp only [nxt] at hq
      split at hq
      · rename_i e9
        exact hI c s pc ls v σ (dOk_spec e9) h
      · cases hq
    | ifnonnull t =>
      replace h := popV_of h
      obtain ⟨v, r, rfl, h1, h2, h3⟩ := h
      simp only [nxA] at hq
      split at hq
      · rename_i e9
        cases hq
        simp only [Bool.and_eq_true, decide_eq_true_eq] at e9
        obtain ⟨⟨⟨g0, g1⟩, g2⟩, g3⟩ := e9
        rcases v with z | z | _ | v
        · cases h1
        · cases h1
        · exact R_nnN (dOk_spec g1) (dOk_spec g2) (dOk_spec g3) (of_decide_eq_true hck) (go hc hs (h3 rfl))
        · exact R_nnA (dOk_spec g1) (dOk_spec g2) (dOk_spec g3) g0 (of_decide_eq_true hck) (gj _ (h2 v rfl))
      · cases hq
    | faload =>
      replace h := popI_of h
      obtain ⟨z, r, rfl, h⟩ := h
      replace h := popR_of h
      obtain ⟨a, i, r, rfl, rfl, rfl, h1, h2, h3, h⟩ := h
      simp only [nxA] at hq
      split at hq
      · rename_i e9
        cases hq
        exact R_sldA (dOk_spec e9) h1 h2 h3 (go hc hs h)
      · cases hq
    | caload =>
      replace h : popR st (fun a i r => a = 65 ∧ i = 0 ∧ sxY XL XS Y ∧ wpA R d j B Y T XL XS n r0 c s ls (.inl (XL : Int) :: r) σ) := h
      replace h := popR_of h
      obtain ⟨a, i, r, rfl, rfl, rfl, h1, h⟩ := h
      simp only [nxA] at hq
      split at hq
      · rename_i e9
        cases hq
        exact R_slenA (dOk_spec e9) h1 (go hc hs h)
      · cases hq
    | _ => exact absurd rfl hpl
/-- the return of a method that makes -/
theorem A_iret {R : Room} {j mc ms : Nat} {K : Option AV → Mem → Prop} (c s pc : Nat) (ls : List AV) (a : Int) (σ : Mem) (hd : decode (mB j) pc = .ok (.ireturn, 1)) (h : (mR j = some .int ∨ (mR j = some .boolean ∧ (a = 0 ∨ a = 1))) ∧ c ≤ mc ∧ s ≤ ms ∧ K (some (.inl a)) σ) : RnG (R, c, s) j pc ls [.inl a] σ (YA K mc ms) := by
  obtain ⟨hr, h1, h2, hk⟩ := h
  refine RnG.wide h1 h2 ?_
  intro p l e s m args below meth c D dA ρ A H locs la C hl hP hD hS
  have hq : ∀ t : State, t.heap = H → s.WarmedH t.vm → QKA D dA ρ A K args s (.returned (((some (.inl a)) : Option AV).map (cv ρ))) t := fun t ht hW => ⟨⟨(some (.inl a)), ρ, σ, ext.rf, rfl, hk, by rw [ht]; exact hP, va_K.moved hW.alike C.2.2.2.2.2.2.2.1, hD⟩, hS.F ht⟩
  have G : W p l e R s m args below meth c H locs mc ms (MQ below (QKA D dA ρ A K) args s mc ms A) (F0 m pc la [.int (Int32.ofInt a)]) := by
    rcases hr with hr | ⟨hr, hz⟩
    · exact W.iret C.1 C.2.1 (C.2.2.1.trans hr) hq hS.2.2 hd C.2.2.2.2.2.2.1
    · exact W.zret C.1 C.2.1 (C.2.2.1.trans hr) (nar_zv hz) hq hS.2.2 hd C.2.2.2.2.2.2.1
  intro T hT X
  obtain ⟨t, a1, b1⟩ := G T hT X
  exact ⟨t, a1, fun _ => b1⟩
theorem A_aret {R : Room} {j mc ms : Nat} {K : Option AV → Mem → Prop} (c s pc : Nat) (ls : List AV) (v : Option (Nat × Nat)) (σ : Mem) (hd : decode (mB j) pc = .ok (.areturn, 1)) (h : (∃ n, mR j = some (.object n)) ∧ c ≤ mc ∧ s ≤ ms ∧ K (some (.inr (.inr v))) σ) : RnG (R, c, s) j pc ls [.inr (.inr v)] σ (YA K mc ms) := by
  obtain ⟨⟨n, hr⟩, h1, h2, hk⟩ := h
  refine RnG.wide h1 h2 ?_
  intro p l e s m args below meth c D dA ρ A H locs la C hl hP hD hS
  have hq : ∀ t : State, t.heap = H → s.WarmedH t.vm → QKA D dA ρ A K args s (.returned (((some (.inr (.inr v))) : Option AV).map (cv ρ))) t := fun t ht hW => ⟨⟨(some (.inr (.inr v))), ρ, σ, ext.rf, rfl, hk, by rw [ht]; exact hP, va_K.moved hW.alike C.2.2.2.2.2.2.2.1, hD⟩, hS.F ht⟩
  have G : W p l e R s m args below meth c H locs mc ms (MQ below (QKA D dA ρ A K) args s mc ms A) (F0 m pc la [cv ρ (.inr (.inr v))]) := by
    refine W.aret C.1 C.2.1 (C.2.2.1.trans hr) (Or.inl ⟨n, rfl⟩) ?_ hq hS.2.2 hd C.2.2.2.2.2.2.1
    cases v with
    | none => exact Or.inl rfl
    | some q => exact Or.inr ⟨_, rfl⟩
  intro T hT X
  obtain ⟨t, a1, b1⟩ := G T hT X
  exact ⟨t, a1, fun _ => b1⟩
/-- what a return asks -/
def TA (j : Nat) (K : Option AV → Mem → Prop) (mc ms : Nat) : Nat → Nat → Option AV → Mem → Prop := fun c s r σ => (match r with
  | some (.inl a) => (mR j = some .int ∨ (mR j = some .boolean ∧ (a = 0 ∨ a = 1)))
  | some (.inr (.inr _)) => ∃ n, mR j = some (.object n)
  | _ => False) ∧ c ≤ mc ∧ s ≤ ms ∧ K r σ
theorem EvA.entr {d mc ms j n : Nat} {B : Nat → List Instr} {av : List AV} {σ : Mem} {K : Option AV → Mem → Prop} (hj : j < 315) (hn : mL j = n) (hl : (entL av).length ≤ n) (hB : ∀ t, boA (mC j) (mB j) (mL j) t (B t) = true) (hd : 2 ≤ d) (h : wpA (rmC (d + 1) mc ms) d j B (YA K mc ms) (TA j K mc ms) 0 (fun _ => 0) 400 (B 0) 0 0 (ent n av) [] σ) : EvA (d + 1) mc ms j av σ K :=
  EvA.enter hj hn hl (wpA_ok ⟨Nat.le_refl _, Nat.le_refl _, by show 3 ≤ d + 1; omega, by show 192 ≤ 64 * (d + 1); omega⟩ YA_mn YA_sc (fun c s pc ls a σ hd h => A_iret c s pc ls a σ hd h) (fun c s pc ls v σ hd h => A_aret c s pc ls v σ hd h) hB 400 _ 0 0 0 _ _ _ (hB 0) (Nat.zero_le _) (Nat.zero_le _) h)
/-- from a loop's head -/
theorem A_loop {d mc ms j t c s : Nat} {B : Nat → List Instr} {is : List Instr} {ls st : List AV} {σ : Mem} {K : Option AV → Mem → Prop} (hB : ∀ t, boA (mC j) (mB j) (mL j) t (B t) = true) (hi : boA (mC j) (mB j) (mL j) t is = true) (hd : 2 ≤ d) (hc : c ≤ mc) (hs : s ≤ ms) (h : wpA (rmC (d + 1) mc ms) d j B (YA K mc ms) (TA j K mc ms) 0 (fun _ => 0) 400 is c s ls st σ) : RnG (rmC (d + 1) mc ms, c, s) j t ls st σ (YA K mc ms) :=
  wpA_ok ⟨Nat.le_refl _, Nat.le_refl _, by show 3 ≤ d + 1; omega, by show 192 ≤ 64 * (d + 1); omega⟩ YA_mn YA_sc (fun c s pc ls a σ hd h => A_iret c s pc ls a σ hd h) (fun c s pc ls v σ hd h => A_aret c s pc ls v σ hd h) hB 400 _ t c s _ _ _ hi hc hs h
