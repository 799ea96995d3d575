/-! a6: the code of the methods that make, and of the law, resolved (written by wip/whole/acode.py) -/
def b_Y4_readWeighs (t : Nat) : List Instr := match t with
  | 0 => [.aload 0, .invokeinterface 404 0, .aload 0, .sipush 0, .putfield 263, .aload 0, .sipush 1, .putstatic 264, .aload 0, .sipush 58, .invokeinterface 516 1, .ifCond .eq 31, .aload 0, .sipush 0, .invokeinterface 628 1, .ifCond .ne 33, .jsr 31]
  | 31 => [.sipush 0, .ireturn]
  | 33 => [.aload 0, .instanceof 265, .aload 0, .checkcast 527184, .aload 0, .getfield 263, .fload 24, .aload 0, .invokeinterface 500 0, .ireturn]
  | _ => []
theorem k_Y4_readWeighs : ∀ t, boA (mC 38) (mB 38) (mL 38) t (b_Y4_readWeighs t) = true := by
  intro t
  unfold b_Y4_readWeighs
  split
  all_goals first | decide +kernel | rfl
theorem r_Y4_readWeighs : mR 38 = (some .boolean) := by decide +kernel
theorem e_Y4_readWeighs {d mc ms : Nat} {av : List AV} {σ : Mem} {K : Option AV → Mem → Prop} (hl : (entL av).length ≤ 1) (hd : 2 ≤ d) (h : wpA (rmC (d + 1) mc ms) d 38 b_Y4_readWeighs (YA K mc ms) (TA 38 K mc ms) 0 (fun _ => 0) 400 (b_Y4_readWeighs 0) 0 0 (ent 1 av) [] σ) : EvA (d + 1) mc ms 38 av σ K := EvA.entr (by decide) (by decide +kernel) hl k_Y4_readWeighs hd h
def b_Y4_readLets (t : Nat) : List Instr := match t with
  | 0 => [.aload 0, .invokeinterface 404 0, .aload 0, .sipush 0, .putfield 263, .aload 0, .sipush 0, .putstatic 264, .aload 0, .sipush 58, .invokeinterface 516 1, .ifCond .eq 31, .aload 0, .sipush 0, .invokeinterface 724 1, .ifCond .ne 33, .jsr 31]
  | 31 => [.sipush 0, .ireturn]
  | 33 => [.aload 0, .instanceof 265, .aload 0, .checkcast 527184, .aload 0, .getfield 263, .fload 25, .aload 0, .invokeinterface 500 0, .ireturn]
  | _ => []
theorem k_Y4_readLets : ∀ t, boA (mC 44) (mB 44) (mL 44) t (b_Y4_readLets t) = true := by
  intro t
  unfold b_Y4_readLets
  split
  all_goals first | decide +kernel | rfl
theorem r_Y4_readLets : mR 44 = (some .boolean) := by decide +kernel
theorem e_Y4_readLets {d mc ms : Nat} {av : List AV} {σ : Mem} {K : Option AV → Mem → Prop} (hl : (entL av).length ≤ 1) (hd : 2 ≤ d) (h : wpA (rmC (d + 1) mc ms) d 44 b_Y4_readLets (YA K mc ms) (TA 44 K mc ms) 0 (fun _ => 0) 400 (b_Y4_readLets 0) 0 0 (ent 1 av) [] σ) : EvA (d + 1) mc ms 44 av σ K := EvA.entr (by decide) (by decide +kernel) hl k_Y4_readLets hd h
def b_Y4_readLine (t : Nat) : List Instr := match t with
  | 0 => [.aload 0, .ldc 3, .invokeinterface 452 1, .ifCond .eq 14, .aload 0, .invokeinterface 564 0, .ireturn]
  | 14 => [.aload 0, .ldc 5, .invokeinterface 452 1, .ifCond .eq 28, .aload 0, .invokeinterface 580 0, .ireturn]
  | 28 => [.aload 0, .ldc 7, .invokeinterface 452 1, .ifCond .eq 42, .aload 0, .invokeinterface 596 0, .ireturn]
  | 42 => [.aload 0, .ldc 10, .invokeinterface 452 1, .ifCond .eq 56, .aload 0, .invokespecial 612, .ireturn]
  | 56 => [.aload 0, .ldc 19, .invokeinterface 452 1, .ifCond .eq 70, .aload 0, .invokespecial 708, .ireturn]
  | 70 => [.aload 0, .ldc 23, .invokeinterface 452 1, .ifCond .eq 84, .aload 0, .invokeinterface 788 0, .ireturn]
  | 84 => [.aload 0, .ldc 12, .invokeinterface 452 1, .ifCond .eq 100, .aload 0, .invokeinterface 804 0, .goto 105]
  | 100 => [.aload 0, .sipush 2, .invokeinterface 468 1, .jsr 105]
  | 105 => [.ireturn]
  | _ => []
theorem k_Y4_readLine : ∀ t, boA (mC 34) (mB 34) (mL 34) t (b_Y4_readLine t) = true := by
  intro t
  unfold b_Y4_readLine
  split
  all_goals first | decide +kernel | rfl
theorem r_Y4_readLine : mR 34 = (some .boolean) := by decide +kernel
theorem e_Y4_readLine {d mc ms : Nat} {av : List AV} {σ : Mem} {K : Option AV → Mem → Prop} (hl : (entL av).length ≤ 1) (hd : 2 ≤ d) (h : wpA (rmC (d + 1) mc ms) d 34 b_Y4_readLine (YA K mc ms) (TA 34 K mc ms) 0 (fun _ => 0) 400 (b_Y4_readLine 0) 0 0 (ent 1 av) [] σ) : EvA (d + 1) mc ms 34 av σ K := EvA.entr (by decide) (by decide +kernel) hl k_Y4_readLine hd h
def b_Y4_read (t : Nat) : List Instr := match t with
  | 0 => [.aload 0, .sipush 0, .iload 1, .aload 0, .checkcast 525568, .arraylength, .dcmp .l, .dcmp .g, .putfield 258, .aload 0, .sipush 0, .putfield 260, .aload 0, .sipush 0, .putfield 266, .aload 0, .sipush (-1), .putfield 267, .aload 0, .new 0, .ldc_w 265, .aload 0, .invokeinterface 404 0, .aload 0, .invokeinterface 420 0, .istore 2, .sipush 0, .istore 3, .jsr 54]
  | 54 => [.goto_w 54]
  | 83 => [.iload 2, .ifCond .eq 94, .aload 0, .instanceof 265, .goto 95]
  | 94 => [.aconst_null, .jsr 95]
  | 95 => [.areturn]
  | _ => []
theorem k_Y4_read : ∀ t, boA (mC 24) (mB 24) (mL 24) t (b_Y4_read t) = true := by
  intro t
  unfold b_Y4_read
  split
  all_goals first | decide +kernel | rfl
theorem r_Y4_read : mR 24 = (some (.object "DebtBridge$Plan")) := by decide +kernel
theorem e_Y4_read {d mc ms : Nat} {av : List AV} {σ : Mem} {K : Option AV → Mem → Prop} (hl : (entL av).length ≤ 4) (hd : 2 ≤ d) (h : wpA (rmC (d + 1) mc ms) d 24 b_Y4_read (YA K mc ms) (TA 24 K mc ms) 0 (fun _ => 0) 400 (b_Y4_read 0) 0 0 (ent 4 av) [] σ) : EvA (d + 1) mc ms 24 av σ K := EvA.entr (by decide) (by decide +kernel) hl k_Y4_read hd h
def h_Y4_read_54 : List Instr := [.iload 3, .sipush 900, .if_icmp .ge 83, .iload 2, .ifCond .eq 83, .aload 0, .getfield 261, .ifCond .eq 83, .aload 0, .invokespecial 548, .istore 2, .iinc 3 1, .goto 54]
theorem hk_Y4_read_54 : boA (mC 24) (mB 24) (mL 24) 54 h_Y4_read_54 = true := by decide +kernel
theorem l_Y4_read_54 {d mc ms c s : Nat} {ls st : List AV} {σ : Mem} {K : Option AV → Mem → Prop} (hd : 2 ≤ d) (hc : c ≤ mc) (hs : s ≤ ms) (h : wpA (rmC (d + 1) mc ms) d 24 b_Y4_read (YA K mc ms) (TA 24 K mc ms) 0 (fun _ => 0) 400 h_Y4_read_54 c s ls st σ) : RnG (rmC (d + 1) mc ms, c, s) 24 54 ls st σ (YA K mc ms) := A_loop k_Y4_read hk_Y4_read_54 hd hc hs h
def b_Y11_bridge (t : Nat) : List Instr := match t with
  | 0 => [.iload 1, .ifCond .lt 12, .iload 1, .aload 0, .getfield 717, .if_icmp .le 15, .jsr 12]
  | 12 => [.sipush (-3), .ireturn]
  | 15 => [.aload 0, .sipush 0, .putfield 717, .aload 0, .checkcast 1443968, .iload 1, .invokespecial 388, .ifnonnull 44, .sipush (-30), .aload 0, .checkcast 1443968, .getfield 266, .isub, .ireturn]
  | 44 => [.aload 0, .checkcast 1446208, .aload 2, .invokeinterface 1274 1, .aload 0, .checkcast 1454144, .invokeinterface 322 0, .aload 2, .getfield 201, .ireturn]
  | _ => []
theorem k_Y11_bridge : ∀ t, boA (mC 108) (mB 108) (mL 108) t (b_Y11_bridge t) = true := by
  intro t
  unfold b_Y11_bridge
  split
  all_goals first | decide +kernel | rfl
theorem r_Y11_bridge : mR 108 = (some .int) := by decide +kernel
theorem e_Y11_bridge {d mc ms : Nat} {av : List AV} {σ : Mem} {K : Option AV → Mem → Prop} (hl : (entL av).length ≤ 3) (hd : 2 ≤ d) (h : wpA (rmC (d + 1) mc ms) d 108 b_Y11_bridge (YA K mc ms) (TA 108 K mc ms) 0 (fun _ => 0) 400 (b_Y11_bridge 0) 0 0 (ent 3 av) [] σ) : EvA (d + 1) mc ms 108 av σ K := EvA.entr (by decide) (by decide +kernel) hl k_Y11_bridge hd h
section EVALA
variable {R : Room} {d j : Nat} {Y : YQ} {T : Nat → Nat → Option AV → Mem → Prop} {XL : Nat} {XS : Int → Int} {nx : Nat → Nat → List AV → List AV → Mem → Prop} {jp : Nat → Nat → Nat → List AV → List AV → Mem → Prop} {c s : Nat} {ls st : List AV} {σ : Mem}
theorem sA_goto_w {t : Int} : stA R d j Y T XL XS (.goto_w t) nx jp c s ls st σ = (RnG (R, c, s) j t.toNat ls st σ Y) := rfl
theorem sA_dcmpg  : stA R d j Y T XL XS (.dcmp .g) nx jp c s ls st σ = (popI st (fun b r => popI r (fun a r => in32 a ∧ in32 b ∧ r.length ≤ 4 ∧ nx c s ls (.inl (imax a b) :: r) σ))) := rfl
theorem sA_dcmpl  : stA R d j Y T XL XS (.dcmp .l) nx jp c s ls st σ = (popI st (fun b r => popI r (fun a r => in32 a ∧ in32 b ∧ r.length ≤ 4 ∧ nx c s ls (.inl (imin a b) :: r) σ))) := rfl
theorem sA_multianewarray {x : Nat} {n : Nat} : stA R d j Y T XL XS (.multianewarray x n) nx jp c s ls st σ = (tk n st [] (fun av r => r.length ≤ 4 ∧ Ev d x av σ (fun v σ' => nx c s ls (psh v r) σ'))) := rfl
theorem sA_invokeinterface {x : Nat} {n : Nat} : stA R d j Y T XL XS (.invokeinterface x n) nx jp c s ls st σ = (tk n st [] (fun av r => popR r (fun a i r => a = x % 16 ∧ i < cnt σ (x % 16) ∧ r.length ≤ 4 ∧ Ev d (x / 16) (.inr (.inr (some (x % 16, i))) :: av) σ (fun v σ' => nx c s ls (psh v r) σ')))) := rfl
theorem sA_invokespecial {x : Nat} : stA R d j Y T XL XS (.invokespecial x) nx jp c s ls st σ = (tk (mP (x / 16)) st [] (fun av r => popR r (fun a i r => a = x % 16 ∧ i < cnt σ (x % 16) ∧ r.length ≤ 4 ∧ nrl ls = true ∧ nrl r = true ∧ ∃ mc ms, c + mc ≤ R.cells ∧ s + ms ≤ R.slots ∧ EvA d mc ms (x / 16) (.inr (.inr (some (x % 16, i))) :: av) σ (fun v σ' => nx (c + mc) (s + ms) ls (psh v r) σ')))) := rfl
theorem sA_new {x : Nat} : stA R d j Y T XL XS (.new x) nx jp c s ls st σ = (nrl ls = true ∧ nrl st = true ∧ st.length ≤ 3 ∧ ppn σ ∧ c + 6 ≤ R.cells ∧ s + 60 ≤ R.slots ∧ nx (c + 6) (s + 60) ls (.inr (.inr (some (3, npl σ))) :: st) (newP σ)) := rfl
theorem sA_fload {Kd : Nat} : stA R d j Y T XL XS (.fload Kd) nx jp c s ls st σ = (popI st (fun n r => popR r (fun a i r => popR r (fun b k r => a = 26 ∧ i = 0 ∧ b = 3 ∧ k < npl σ ∧ 0 ≤ n ∧ n < 900 ∧ nrl ls = true ∧ nrl r = true ∧ r.length ≤ 3 ∧ c + 1 ≤ R.cells ∧ s + n.toNat ≤ R.slots ∧ nx (c + 1) (s + n.toNat) ls r (cpyM σ Kd k n.toNat))))) := rfl
theorem sA_aconst_null  : stA R d j Y T XL XS .aconst_null nx jp c s ls st σ = (nx c s ls (.inr (.inr none) :: st) σ) := rfl
theorem sA_areturn  : stA R d j Y T XL XS .areturn nx jp c s ls st σ = (popV st (fun v r => r = [] ∧ isRV v = true ∧ T c s (some v) σ)) := rfl
theorem sA_ireturn  : stA R d j Y T XL XS .ireturn nx jp c s ls st σ = (popI st (fun a r => r = [] ∧ T c s (some (.inl a)) σ)) := rfl
theorem sA_ifnonnull {t : Int} : stA R d j Y T XL XS (.ifnonnull t) nx jp c s ls st σ = (popV st (fun v r => isRV v = true ∧ (∀ q, v = .inr (.inr (some q)) → jp t.toNat c s (ls1 ls 2 v) r σ) ∧ (v = .inr (.inr none) → nx c s (ls1 ls 2 v) r σ))) := rfl
theorem sA_faload  : stA R d j Y T XL XS .faload nx jp c s ls st σ = (popI st (fun z r => popR r (fun a i r => a = 65 ∧ i = 0 ∧ sxY XL XS Y ∧ 0 ≤ z ∧ z < (XL : Int) ∧ nx c s ls (.inl (XS z) :: r) σ))) := rfl
theorem sA_caload  : stA R d j Y T XL XS .caload nx jp c s ls st σ = (popR st (fun a i r => a = 65 ∧ i = 0 ∧ sxY XL XS Y ∧ nx c s ls (.inl (XL : Int) :: r) σ)) := rfl
theorem pA_iload {k : Nat} : stA R d j Y T XL XS (.iload k) nx jp c s ls st σ = stp 0 j (fun _ _ => False) (.iload k) (nx c s) (fun t => jp t c s) ls st σ := propext ⟨fun h => h.2, fun h => ⟨rfl, h⟩⟩
theorem pA_aload {k : Nat} : stA R d j Y T XL XS (.aload k) nx jp c s ls st σ = stp 0 j (fun _ _ => False) (.aload k) (nx c s) (fun t => jp t c s) ls st σ := propext ⟨fun h => h.2, fun h => ⟨rfl, h⟩⟩
theorem pA_istore {k : Nat} : stA R d j Y T XL XS (.istore k) nx jp c s ls st σ = stp 0 j (fun _ _ => False) (.istore k) (nx c s) (fun t => jp t c s) ls st σ := propext ⟨fun h => h.2, fun h => ⟨rfl, h⟩⟩
theorem pA_iinc {k : Nat} {v : Int} : stA R d j Y T XL XS (.iinc k v) nx jp c s ls st σ = stp 0 j (fun _ _ => False) (.iinc k v) (nx c s) (fun t => jp t c s) ls st σ := propext ⟨fun h => h.2, fun h => ⟨rfl, h⟩⟩
theorem pA_sipush {v : Int} : stA R d j Y T XL XS (.sipush v) nx jp c s ls st σ = stp 0 j (fun _ _ => False) (.sipush v) (nx c s) (fun t => jp t c s) ls st σ := propext ⟨fun h => h.2, fun h => ⟨rfl, h⟩⟩
theorem pA_jsr_w {v : Int} : stA R d j Y T XL XS (.jsr_w v) nx jp c s ls st σ = stp 0 j (fun _ _ => False) (.jsr_w v) (nx c s) (fun t => jp t c s) ls st σ := propext ⟨fun h => h.2, fun h => ⟨rfl, h⟩⟩
theorem pA_goto {t : Int} : stA R d j Y T XL XS (.goto t) nx jp c s ls st σ = stp 0 j (fun _ _ => False) (.goto t) (nx c s) (fun t => jp t c s) ls st σ := propext ⟨fun h => h.2, fun h => ⟨rfl, h⟩⟩
theorem pA_jsr {t : Int} : stA R d j Y T XL XS (.jsr t) nx jp c s ls st σ = stp 0 j (fun _ _ => False) (.jsr t) (nx c s) (fun t => jp t c s) ls st σ := propext ⟨fun h => h.2, fun h => ⟨rfl, h⟩⟩
theorem pA_if_icmp {cd : Jvm.ClassFile.Cond} {t : Int} : stA R d j Y T XL XS (.if_icmp cd t) nx jp c s ls st σ = stp 0 j (fun _ _ => False) (.if_icmp cd t) (nx c s) (fun t => jp t c s) ls st σ := propext ⟨fun h => h.2, fun h => ⟨rfl, h⟩⟩
theorem pA_ifCond {cd : Jvm.ClassFile.Cond} {t : Int} : stA R d j Y T XL XS (.ifCond cd t) nx jp c s ls st σ = stp 0 j (fun _ _ => False) (.ifCond cd t) (nx c s) (fun t => jp t c s) ls st σ := propext ⟨fun h => h.2, fun h => ⟨rfl, h⟩⟩
theorem pA_iadd  : stA R d j Y T XL XS .iadd nx jp c s ls st σ = stp 0 j (fun _ _ => False) .iadd (nx c s) (fun t => jp t c s) ls st σ := propext ⟨fun h => h.2, fun h => ⟨rfl, h⟩⟩
theorem pA_isub  : stA R d j Y T XL XS .isub nx jp c s ls st σ = stp 0 j (fun _ _ => False) .isub (nx c s) (fun t => jp t c s) ls st σ := propext ⟨fun h => h.2, fun h => ⟨rfl, h⟩⟩
theorem pA_iand  : stA R d j Y T XL XS .iand nx jp c s ls st σ = stp 0 j (fun _ _ => False) .iand (nx c s) (fun t => jp t c s) ls st σ := propext ⟨fun h => h.2, fun h => ⟨rfl, h⟩⟩
theorem pA_land  : stA R d j Y T XL XS .land nx jp c s ls st σ = stp 0 j (fun _ _ => False) .land (nx c s) (fun t => jp t c s) ls st σ := propext ⟨fun h => h.2, fun h => ⟨rfl, h⟩⟩
theorem pA_lor  : stA R d j Y T XL XS .lor nx jp c s ls st σ = stp 0 j (fun _ _ => False) .lor (nx c s) (fun t => jp t c s) ls st σ := propext ⟨fun h => h.2, fun h => ⟨rfl, h⟩⟩
theorem pA_lshl  : stA R d j Y T XL XS .lshl nx jp c s ls st σ = stp 0 j (fun _ _ => False) .lshl (nx c s) (fun t => jp t c s) ls st σ := propext ⟨fun h => h.2, fun h => ⟨rfl, h⟩⟩
theorem pA_i2l  : stA R d j Y T XL XS .i2l nx jp c s ls st σ = stp 0 j (fun _ _ => False) .i2l (nx c s) (fun t => jp t c s) ls st σ := propext ⟨fun h => h.2, fun h => ⟨rfl, h⟩⟩
theorem pA_lcmp  : stA R d j Y T XL XS .lcmp nx jp c s ls st σ = stp 0 j (fun _ _ => False) .lcmp (nx c s) (fun t => jp t c s) ls st σ := propext ⟨fun h => h.2, fun h => ⟨rfl, h⟩⟩
theorem pA_getfield {x : Nat} : stA R d j Y T XL XS (.getfield x) nx jp c s ls st σ = stp 0 j (fun _ _ => False) (.getfield x) (nx c s) (fun t => jp t c s) ls st σ := propext ⟨fun h => h.2, fun h => ⟨rfl, h⟩⟩
theorem pA_checkcast {y : Nat} : stA R d j Y T XL XS (.checkcast y) nx jp c s ls st σ = stp 0 j (fun _ _ => False) (.checkcast y) (nx c s) (fun t => jp t c s) ls st σ := propext ⟨fun h => h.2, fun h => ⟨rfl, h⟩⟩
theorem pA_instanceof {x : Nat} : stA R d j Y T XL XS (.instanceof x) nx jp c s ls st σ = stp 0 j (fun _ _ => False) (.instanceof x) (nx c s) (fun t => jp t c s) ls st σ := propext ⟨fun h => h.2, fun h => ⟨rfl, h⟩⟩
theorem pA_putfield {x : Nat} : stA R d j Y T XL XS (.putfield x) nx jp c s ls st σ = stp 0 j (fun _ _ => False) (.putfield x) (nx c s) (fun t => jp t c s) ls st σ := propext ⟨fun h => h.2, fun h => ⟨rfl, h⟩⟩
theorem pA_putstatic {x : Nat} : stA R d j Y T XL XS (.putstatic x) nx jp c s ls st σ = stp 0 j (fun _ _ => False) (.putstatic x) (nx c s) (fun t => jp t c s) ls st σ := propext ⟨fun h => h.2, fun h => ⟨rfl, h⟩⟩
theorem pA_arraylength  : stA R d j Y T XL XS .arraylength nx jp c s ls st σ = stp 0 j (fun _ _ => False) .arraylength (nx c s) (fun t => jp t c s) ls st σ := propext ⟨fun h => h.2, fun h => ⟨rfl, h⟩⟩
theorem pA_tableswitch {dd : Int} {lo : Int} {hi : Int} {offs : Array Int} : stA R d j Y T XL XS (.tableswitch dd lo hi offs) nx jp c s ls st σ = stp 0 j (fun _ _ => False) (.tableswitch dd lo hi offs) (nx c s) (fun t => jp t c s) ls st σ := propext ⟨fun h => h.2, fun h => ⟨rfl, h⟩⟩
theorem pA_ldc {n : Nat} : stA R d j Y T XL XS (.ldc n) nx jp c s ls st σ = stp 0 j (fun _ _ => False) (.ldc n) (nx c s) (fun t => jp t c s) ls st σ := propext ⟨fun h => h.2, fun h => ⟨rfl, h⟩⟩
theorem pA_ldc_w {x : Nat} : stA R d j Y T XL XS (.ldc_w x) nx jp c s ls st σ = stp 0 j (fun _ _ => False) (.ldc_w x) (nx c s) (fun t => jp t c s) ls st σ := propext ⟨fun h => h.2, fun h => ⟨rfl, h⟩⟩
theorem wpA_c {B : Nat → List Instr} {n : Nat} {i : Instr} {r : List Instr} : wpA R d j B Y T XL XS (n + 1) (i :: r) c s ls st σ = stA R d j Y T XL XS i (wpA R d j B Y T XL XS n r) (fun t => wpA R d j B Y T XL XS n (B t)) c s ls st σ := rfl
theorem TA_i {K : Option AV → Mem → Prop} {mc ms : Nat} {a : Int} : TA j K mc ms c s (some (.inl a)) σ = ((mR j = some .int ∨ (mR j = some .boolean ∧ (a = 0 ∨ a = 1))) ∧ c ≤ mc ∧ s ≤ ms ∧ K (some (.inl a)) σ) := rfl
theorem TA_r {K : Option AV → Mem → Prop} {mc ms : Nat} {v : Option (Nat × Nat)} : TA j K mc ms c s (some (.inr (.inr v))) σ = ((∃ n, mR j = some (.object n)) ∧ c ≤ mc ∧ s ≤ ms ∧ K (some (.inr (.inr v))) σ) := rfl
theorem isRV_r {v : Option (Nat × Nat)} : isRV (.inr (.inr v)) = true := rfl
theorem nrl_n : nrl [] = true := rfl
theorem nrl_i {a : Int} {r : List AV} : nrl (.inl a :: r) = nrl r := by simp [nrl, nrf]
theorem nrl_l {a : Int} {r : List AV} : nrl (.inr (.inl a) :: r) = nrl r := by simp [nrl, nrf]
theorem nrl_0 {r : List AV} : nrl (.inr (.inr none) :: r) = nrl r := by simp [nrl, nrf]
theorem nrl_r {k i : Nat} {r : List AV} : nrl (.inr (.inr (some (k, i))) :: r) = ((!(k == 3 || (decide (21 ≤ k) && decide (k ≤ 25)))) && nrl r) := rfl
theorem rmC_c {d mc ms : Nat} : (rmC d mc ms).cells = mc := rfl
theorem rmC_s {d mc ms : Nat} : (rmC d mc ms).slots = ms := rfl
theorem mPA : mP 38 = 0 ∧ mP 44 = 0 ∧ mP 34 = 0 ∧ mP 24 = 1 ∧ mP 108 = 1 := by decide +kernel
theorem objA : (∃ n, (some (FieldType.object "DebtBridge$Plan") : Option FieldType) = some (.object n)) = True := propext ⟨fun _ => trivial, fun _ => ⟨_, rfl⟩⟩
end EVALA
