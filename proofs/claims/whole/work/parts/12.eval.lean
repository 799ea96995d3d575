/-! 12: equations by which a body is reckoned out (written by wip/whole/evalgen.py) -/
section EVAL
variable {d j : Nat} {K : Option AV → Mem → Prop} {nx : List AV → List AV → Mem → Prop} {jp : Nat → List AV → List AV → Mem → Prop} {ls st : List AV} {σ : Mem}
theorem st_iload {k : Nat} : stp d j K (.iload k) nx jp ls st σ = (getI (lg ls k) (fun z => nx ls (.inl z :: st) σ)) := rfl
theorem st_lload {k : Nat} : stp d j K (.lload k) nx jp ls st σ = (getL (lg ls k) (fun z => nx ls (.inr (.inl z) :: st) σ)) := rfl
theorem st_aload {k : Nat} : stp d j K (.aload k) nx jp ls st σ = (getR (lg ls k) (fun q => nx ls (.inr (.inr (some q)) :: st) σ)) := rfl
theorem st_istore {k : Nat} : stp d j K (.istore k) nx jp ls st σ = (popI st (fun z r => nx (ls1 ls k (.inl z)) r σ)) := rfl
theorem st_lstore {k : Nat} : stp d j K (.lstore k) nx jp ls st σ = (popL st (fun z r => nx (ls2 ls k (.inr (.inl z))) r σ)) := rfl
theorem st_astore {k : Nat} : stp d j K (.astore k) nx jp ls st σ = (popR st (fun a b r => nx (ls1 ls k (.inr (.inr (some (a, b))))) r σ)) := rfl
theorem st_iinc {k : Nat} {v : Int} : stp d j K (.iinc k v) nx jp ls st σ = (getI (lg ls k) (fun z => nx (ls1 ls k (.inl (z + v))) st σ)) := rfl
theorem st_sipush {v : Int} : stp d j K (.sipush v) nx jp ls st σ = (nx ls (.inl v :: st) σ) := rfl
theorem st_jsr_w {v : Int} : stp d j K (.jsr_w v) nx jp ls st σ = (nx ls (.inr (.inl v) :: st) σ) := rfl
theorem st_goto {t : Int} : stp d j K (.goto t) nx jp ls st σ = (jp t.toNat ls st σ) := rfl
theorem st_jsr {t : Int} : stp d j K (.jsr t) nx jp ls st σ = (jp t.toNat ls st σ) := rfl
theorem st_goto_w {t : Int} : stp d j K (.goto_w t) nx jp ls st σ = (Rn (d + 1) j t.toNat ls st σ K) := rfl
theorem st_if_icmp {c : Jvm.ClassFile.Cond} {t : Int} : stp d j K (.if_icmp c t) nx jp ls st σ = (popI st (fun b r => popI r (fun a r => in32 a ∧ in32 b ∧ (ccond c a b → jp t.toNat ls r σ) ∧ (¬ ccond c a b → nx ls r σ)))) := rfl
theorem st_ifCond {c : Jvm.ClassFile.Cond} {t : Int} : stp d j K (.ifCond c t) nx jp ls st σ = (popI st (fun a r => in32 a ∧ (ccond c a 0 → jp t.toNat ls r σ) ∧ (¬ ccond c a 0 → nx ls r σ))) := rfl
theorem st_iadd  : stp d j K .iadd nx jp ls st σ = (popI st (fun b r => popI r (fun a r => nx ls (.inl (a + b) :: r) σ))) := rfl
theorem st_isub  : stp d j K .isub nx jp ls st σ = (popI st (fun b r => popI r (fun a r => nx ls (.inl (a - b) :: r) σ))) := rfl
theorem st_imul  : stp d j K .imul nx jp ls st σ = (popI st (fun b r => popI r (fun a r => nx ls (.inl (a * b) :: r) σ))) := rfl
theorem st_idiv  : stp d j K .idiv nx jp ls st σ = (popI st (fun b r => popI r (fun a r => in32 a ∧ in32 b ∧ ¬ b = 0 ∧ nx ls (.inl (a.tdiv b) :: r) σ))) := rfl
theorem st_irem  : stp d j K .irem nx jp ls st σ = (popI st (fun b r => popI r (fun a r => in32 a ∧ in32 b ∧ ¬ b = 0 ∧ nx ls (.inl (a.tmod b) :: r) σ))) := rfl
theorem st_iand  : stp d j K .iand nx jp ls st σ = (popI st (fun b r => popI r (fun a r => nx ls (.inl (iand a b) :: r) σ))) := rfl
theorem st_ior  : stp d j K .ior nx jp ls st σ = (popI st (fun b r => popI r (fun a r => nx ls (.inl (ior a b) :: r) σ))) := rfl
theorem st_ixor  : stp d j K .ixor nx jp ls st σ = (popI st (fun b r => popI r (fun a r => nx ls (.inl (ixor a b) :: r) σ))) := rfl
theorem st_ishl  : stp d j K .ishl nx jp ls st σ = (popI st (fun b r => popI r (fun a r => nx ls (.inl (ishl a b) :: r) σ))) := rfl
theorem st_ishr  : stp d j K .ishr nx jp ls st σ = (popI st (fun b r => popI r (fun a r => nx ls (.inl (ishr a b) :: r) σ))) := rfl
theorem st_iushr  : stp d j K .iushr nx jp ls st σ = (popI st (fun b r => popI r (fun a r => nx ls (.inl (iushr a b) :: r) σ))) := rfl
theorem st_ladd  : stp d j K .ladd nx jp ls st σ = (popL st (fun b r => popL r (fun a r => nx ls (.inr (.inl (a + b)) :: r) σ))) := rfl
theorem st_lsub  : stp d j K .lsub nx jp ls st σ = (popL st (fun b r => popL r (fun a r => nx ls (.inr (.inl (a - b)) :: r) σ))) := rfl
theorem st_lmul  : stp d j K .lmul nx jp ls st σ = (popL st (fun b r => popL r (fun a r => nx ls (.inr (.inl (a * b)) :: r) σ))) := rfl
theorem st_ldiv  : stp d j K .ldiv nx jp ls st σ = (popL st (fun b r => popL r (fun a r => in64 a ∧ in64 b ∧ ¬ b = 0 ∧ nx ls (.inr (.inl (a.tdiv b)) :: r) σ))) := rfl
theorem st_lrem  : stp d j K .lrem nx jp ls st σ = (popL st (fun b r => popL r (fun a r => in64 a ∧ in64 b ∧ ¬ b = 0 ∧ nx ls (.inr (.inl (a.tmod b)) :: r) σ))) := rfl
theorem st_land  : stp d j K .land nx jp ls st σ = (popL st (fun b r => popL r (fun a r => nx ls (.inr (.inl (jand a b)) :: r) σ))) := rfl
theorem st_lor  : stp d j K .lor nx jp ls st σ = (popL st (fun b r => popL r (fun a r => nx ls (.inr (.inl (jor a b)) :: r) σ))) := rfl
theorem st_lshl  : stp d j K .lshl nx jp ls st σ = (popI st (fun b r => popL r (fun a r => nx ls (.inr (.inl (jshl a b)) :: r) σ))) := rfl
theorem st_lshr  : stp d j K .lshr nx jp ls st σ = (popI st (fun b r => popL r (fun a r => nx ls (.inr (.inl (jshr a b)) :: r) σ))) := rfl
theorem st_i2l  : stp d j K .i2l nx jp ls st σ = (popI st (fun a r => in32 a ∧ nx ls (.inr (.inl a) :: r) σ)) := rfl
theorem st_l2i  : stp d j K .l2i nx jp ls st σ = (popL st (fun a r => nx ls (.inl a :: r) σ)) := rfl
theorem st_i2b  : stp d j K .i2b nx jp ls st σ = (popI st (fun a r => nx ls (.inl (i2b a) :: r) σ)) := rfl
theorem st_i2s  : stp d j K .i2s nx jp ls st σ = (popI st (fun a r => nx ls (.inl (i2s a) :: r) σ)) := rfl
theorem st_i2c  : stp d j K .i2c nx jp ls st σ = (popI st (fun a r => nx ls (.inl (i2c a) :: r) σ)) := rfl
theorem st_lcmp  : stp d j K .lcmp nx jp ls st σ = (popL st (fun b r => popL r (fun a r => in64 a ∧ in64 b ∧ nx ls (.inl (lcm2 a b) :: r) σ))) := rfl
theorem st_dup  : stp d j K .dup nx jp ls st σ = (popV st (fun a r => isL a = false ∧ nx ls (a :: a :: r) σ)) := rfl
theorem st_pop  : stp d j K .pop nx jp ls st σ = (popV st (fun a r => isL a = false ∧ nx ls r σ)) := rfl
theorem st_dup2  : stp d j K .dup2 nx jp ls st σ = (popV st (fun a r => if isL a = true then nx ls (a :: a :: r) σ else popV r (fun b r => isL b = false ∧ nx ls (a :: b :: a :: b :: r) σ))) := rfl
theorem st_pop2  : stp d j K .pop2 nx jp ls st σ = (popV st (fun a r => isL a = true ∧ nx ls r σ)) := rfl
theorem st_getfield {x : Nat} : stp d j K (.getfield x) nx jp ls st σ = (popR st (fun a i r => a = x / 64 ∧ i < cnt σ (x / 64) ∧ nx ls (.inl (σ (x / 64) i (x % 64)) :: r) σ)) := rfl
theorem st_getstatic {x : Nat} : stp d j K (.getstatic x) nx jp ls st σ = (popR st (fun a i r => a = x / 64 ∧ i < cnt σ (x / 64) ∧ nx ls (.inr (.inl (σ (x / 64) i (x % 64))) :: r) σ)) := rfl
theorem st_checkcast {y : Nat} : stp d j K (.checkcast y) nx jp ls st σ = (popR st (fun a i r => a = y / 2048 / 64 ∧ i < cnt σ (y / 2048 / 64) ∧ nx ls (.inr (.inr (some (y / 32 % 64, y / 16 % 2 * i + y % 16))) :: r) σ)) := rfl
theorem st_instanceof {x : Nat} : stp d j K (.instanceof x) nx jp ls st σ = (popR st (fun a i r => a = x / 64 ∧ i < cnt σ (x / 64) ∧ nx ls (.inr (.inr (some (3, (σ (x / 64) i (x % 64)).toNat))) :: r) σ)) := rfl
theorem st_putfield {x : Nat} : stp d j K (.putfield x) nx jp ls st σ = (popI st (fun v r => popR r (fun a i r => a = x / 64 ∧ i < cnt σ (x / 64) ∧ nx ls r (mu σ (x / 64) i (x % 64) v)))) := rfl
theorem st_putstatic {x : Nat} : stp d j K (.putstatic x) nx jp ls st σ = (popI st (fun v r => popR r (fun a i r => a = x / 64 ∧ i < cnt σ (x / 64) ∧ (v = 0 ∨ v = 1) ∧ nx ls r (mu σ (x / 64) i (x % 64) v)))) := rfl
theorem st_dstore {x : Nat} : stp d j K (.dstore x) nx jp ls st σ = (popL st (fun v r => popR r (fun a i r => a = x / 64 ∧ i < cnt σ (x / 64) ∧ nx ls r (mu σ (x / 64) i (x % 64) v)))) := rfl
theorem st_iaload  : stp d j K .iaload nx jp ls st σ = (popI st (fun z r => popR r (fun a i r => akd a 0 = true ∧ i < cnt σ a ∧ inb σ a i z ∧ nx ls (.inl (σ a i z.toNat) :: r) σ))) := rfl
theorem st_baload  : stp d j K .baload nx jp ls st σ = (popI st (fun z r => popR r (fun a i r => (akd a 1 = true ∨ akd a 2 = true) ∧ i < cnt σ a ∧ inb σ a i z ∧ nx ls (.inl (σ a i z.toNat) :: r) σ))) := rfl
theorem st_laload  : stp d j K .laload nx jp ls st σ = (popI st (fun z r => popR r (fun a i r => akd a 3 = true ∧ i < cnt σ a ∧ inb σ a i z ∧ nx ls (.inr (.inl (σ a i z.toNat)) :: r) σ))) := rfl
theorem st_aaload  : stp d j K .aaload nx jp ls st σ = (popI st (fun z r => popR r (fun a i r => (akd a 4 = true ∨ akd a 5 = true ∨ akd a 6 = true) ∧ i < cnt σ a ∧ inb σ a i z ∧ nx ls (.inr (.inr (some ((arf a).1, (arf a).2 + z.toNat))) :: r) σ))) := rfl
theorem st_iastore  : stp d j K .iastore nx jp ls st σ = (popI st (fun v r => popI r (fun z r => popR r (fun a i r => akd a 0 = true ∧ i < cnt σ a ∧ inb σ a i z ∧ nx ls r (mu σ a i z.toNat v))))) := rfl
theorem st_bastore  : stp d j K .bastore nx jp ls st σ = (popI st (fun v r => popI r (fun z r => popR r (fun a i r => ((akd a 1 = true ∧ -128 ≤ v ∧ v ≤ 127) ∨ (akd a 2 = true ∧ (v = 0 ∨ v = 1))) ∧ i < cnt σ a ∧ inb σ a i z ∧ nx ls r (mu σ a i z.toNat v))))) := rfl
theorem st_lastore  : stp d j K .lastore nx jp ls st σ = (popL st (fun v r => popI r (fun z r => popR r (fun a i r => akd a 3 = true ∧ i < cnt σ a ∧ inb σ a i z ∧ nx ls r (mu σ a i z.toNat v))))) := rfl
theorem st_arraylength  : stp d j K .arraylength nx jp ls st σ = (popR st (fun a i r => isK a = true ∧ ¬ a < 13 ∧ aet a < 7 ∧ i < cnt σ a ∧ nx ls (.inl (alen σ a i : Int) :: r) σ)) := rfl
theorem st_dcmpg  : stp d j K (.dcmp .g) nx jp ls st σ = (popI st (fun b r => popI r (fun a r => in32 a ∧ in32 b ∧ r.length ≤ 4 ∧ nx ls (.inl (imax a b) :: r) σ))) := rfl
theorem st_dcmpl  : stp d j K (.dcmp .l) nx jp ls st σ = (popI st (fun b r => popI r (fun a r => in32 a ∧ in32 b ∧ r.length ≤ 4 ∧ nx ls (.inl (imin a b) :: r) σ))) := rfl
theorem st_fcmpg  : stp d j K (.fcmp .g) nx jp ls st σ = (popL st (fun b r => popL r (fun a r => in64 a ∧ in64 b ∧ r.length ≤ 4 ∧ nx ls (.inr (.inl (imax a b)) :: r) σ))) := rfl
theorem st_fcmpl  : stp d j K (.fcmp .l) nx jp ls st σ = (popL st (fun b r => popL r (fun a r => in64 a ∧ in64 b ∧ r.length ≤ 4 ∧ nx ls (.inr (.inl (imin a b)) :: r) σ))) := rfl
theorem st_monitorenter  : stp d j K .monitorenter nx jp ls st σ = (popI st (fun n r => popI r (fun dp r => popR r (fun a1 i1 r => popI r (fun sp r => popR r (fun a0 i0 r => akd a0 0 = true ∧ i0 < cnt σ a0 ∧ akd a1 0 = true ∧ i1 < cnt σ a1 ∧ (0 ≤ sp ∧ 0 ≤ dp ∧ 0 ≤ n ∧ sp + n ≤ (alen σ a0 i0 : Int) ∧ dp + n ≤ (alen σ a1 i1 : Int) ∧ sp + n < 2147483648 ∧ dp + n < 2147483648) ∧ r.length ≤ 4 ∧ nx ls r (mcp σ a0 i0 a1 i1 sp.toNat dp.toNat n.toNat))))))) := rfl
theorem st_tableswitch {dd : Int} {lo : Int} {hi : Int} {offs : Array Int} : stp d j K (.tableswitch dd lo hi offs) nx jp ls st σ = (popI st (fun x r => in32 x ∧ (x < lo ∨ hi < x → jp dd.toNat ls r σ) ∧ swt x (fun t => jp t ls r σ) offs.toList lo)) := rfl
theorem st_multianewarray {x : Nat} {n : Nat} : stp d j K (.multianewarray x n) nx jp ls st σ = (tk n st [] (fun av r => r.length ≤ 4 ∧ Ev d x av σ (fun v σ' => nx ls (psh v r) σ'))) := rfl
theorem st_invokeinterface {x : Nat} {n : Nat} : stp d j K (.invokeinterface x n) nx jp ls st σ = (tk n st [] (fun av r => popR r (fun a i r => a = x % 16 ∧ i < cnt σ (x % 16) ∧ r.length ≤ 4 ∧ Ev d (x / 16) (.inr (.inr (some (x % 16, i))) :: av) σ (fun v σ' => nx ls (psh v r) σ')))) := rfl
theorem st_ireturn  : stp d j K .ireturn nx jp ls st σ = (popI st (fun a r => r = [] ∧ (mR j = some .int ∨ (mR j = some .boolean ∧ (a = 0 ∨ a = 1))) ∧ K (some (.inl a)) σ)) := rfl
theorem st_lreturn  : stp d j K .lreturn nx jp ls st σ = (popL st (fun a r => r = [] ∧ mR j = some .long ∧ K (some (.inr (.inl a))) σ)) := rfl
theorem st_return_  : stp d j K .return_ nx jp ls st σ = (st = [] ∧ mR j = none ∧ K none σ) := rfl
theorem st_ldc {n : Nat} : stp d j K (.ldc n) nx jp ls st σ = (nx ls (.inr (.inr (some (63, n))) :: st) σ) := rfl
theorem st_ldc_w {x : Nat} : stp d j K (.ldc_w x) nx jp ls st σ = (popR st (fun a n r => a = 3 ∧ popR r (fun a i r => a = x / 64 ∧ i < cnt σ (x / 64) ∧ nx ls r (mu σ (x / 64) i (x % 64) (n : Int))))) := rfl
theorem st_ldc2_w {_k : Nat} : stp d j K (.ldc2_w _k) nx jp ls st σ = (popI st (fun a r => nx ls (.inr (.inl (a.bmod 4294967296)) :: r) σ)) := rfl
theorem st_freturn  : stp d j K .freturn nx jp ls st σ = (popI st (fun a r => r = [] ∧ ((mR j = some .byte ∧ -128 ≤ a ∧ a ≤ 127) ∨ (mR j = some .char ∧ 0 ≤ a ∧ a < 256)) ∧ K (some (.inl a)) σ)) := rfl
theorem st_invokevirtual {x : Nat} : stp d j K (.invokevirtual x) nx jp ls st σ = (tk (mP x) st [] (fun av r => popR r (fun a i r => a = 63 ∧ i < NSTR ∧ r.length ≤ 4 ∧ Ev d x (.inr (.inr (some (63, i))) :: av) σ (fun v σ' => nx ls (psh v r) σ')))) := rfl
theorem st_anewarray0  : stp d j K (.anewarray 0) nx jp ls st σ = (popR st (fun a n r => a = 63 ∧ n < NSTR ∧ nx ls (.inr (.inr (some (64, n))) :: r) σ)) := rfl
theorem st_anewarray1  : stp d j K (.anewarray 1) nx jp ls st σ = (popR st (fun a n r => a = 63 ∧ n < NSTR ∧ nx ls (.inl 0 :: r) σ)) := rfl
theorem st_anewarray2  : stp d j K (.anewarray 2) nx jp ls st σ = (nx ls (.inl 1 :: st) σ) := rfl
theorem st_anewarray3  : stp d j K (.anewarray 3) nx jp ls st σ = (nx ls (.inr (.inr none) :: st) σ ∧ nx ls (.inr (.inr (some (66, 0))) :: st) σ) := rfl
theorem st_anewarray4  : stp d j K (.anewarray 4) nx jp ls st σ = (popR st (fun a n r => a = 64 ∧ n < NSTR ∧ nx ls (.inl ((sby n).length : Int) :: r) σ)) := rfl
theorem st_anewarray5  : stp d j K (.anewarray 5) nx jp ls st σ = (popI st (fun z r => popR r (fun a n r => a = 64 ∧ n < NSTR ∧ 0 ≤ z ∧ z < ((sby n).length : Int) ∧ z < 2147483648 ∧ nx ls (.inl ((sby n).getD z.toNat 0) :: r) σ))) := rfl
theorem st_lookupswitch {dd : Int} {ps : Array (Int × Int)} : stp d j K (.lookupswitch dd ps) nx jp ls st σ = (popI st (fun x r => in32 x ∧ lsw x (fun t => jp t ls r σ) dd ps.toList)) := rfl
theorem wp_c {B : Nat → List Instr} {n : Nat} {i : Instr} {r : List Instr} : wp d j B K (n + 1) (i :: r) ls st σ = stp d j K i (wp d j B K n r) (fun t => wp d j B K n (B t)) ls st σ := rfl
theorem popI_c {a : Int} {r : List AV} {k : Int → List AV → Prop} : popI (.inl a :: r) k = k a r := rfl
theorem popL_c {a : Int} {r : List AV} {k : Int → List AV → Prop} : popL (.inr (.inl a) :: r) k = k a r := rfl
theorem popV_c {a : AV} {r : List AV} {k : AV → List AV → Prop} : popV (a :: r) k = k a r := rfl
theorem popR_c {a b : Nat} {r : List AV} {k : Nat → Nat → List AV → Prop} : popR (.inr (.inr (some (a, b))) :: r) k = k a b r := rfl
theorem getI_c {a : Int} {k : Int → Prop} : getI (.inl a) k = k a := rfl
theorem getL_c {a : Int} {k : Int → Prop} : getL (.inr (.inl a)) k = k a := rfl
theorem getR_c {a : Nat × Nat} {k : Nat × Nat → Prop} : getR (.inr (.inr (some a))) k = k a := rfl
theorem lg_z {a : AV} {r : List AV} : lg (a :: r) 0 = a := rfl
theorem lg_s {a : AV} {r : List AV} {n : Nat} : lg (a :: r) (n + 1) = lg r n := rfl
theorem ls1_z {a v : AV} {r : List AV} : ls1 (a :: r) 0 v = v :: r := rfl
theorem ls1_o {a v : AV} {r : List AV} : ls1 (a :: r) 1 v = noL a :: ls1 r 0 v := rfl
theorem ls1_s {a v : AV} {r : List AV} {n : Nat} : ls1 (a :: r) (n + 2) v = a :: ls1 r (n + 1) v := rfl
theorem ls2_z {a b v : AV} {r : List AV} : ls2 (a :: b :: r) 0 v = v :: .inr (.inr none) :: r := rfl
theorem ls2_o {a v : AV} {r : List AV} : ls2 (a :: r) 1 v = noL a :: ls2 r 0 v := by cases r <;> rfl
theorem ls2_s {a v : AV} {r : List AV} {n : Nat} : ls2 (a :: r) (n + 2) v = a :: ls2 r (n + 1) v := by cases r <;> rfl
theorem noL_i {a : Int} : noL (.inl a) = .inl a := rfl
theorem noL_l {a : Int} : noL (.inr (.inl a)) = .inr (.inr none) := rfl
theorem noL_r {a : Option (Nat × Nat)} : noL (.inr (.inr a)) = .inr (.inr a) := rfl
theorem isL_i {a : Int} : isL (.inl a) = false := rfl
theorem isL_l {a : Int} : isL (.inr (.inl a)) = true := rfl
theorem isL_r {a : Option (Nat × Nat)} : isL (.inr (.inr a)) = false := by cases a <;> rfl
theorem tk_z {acc : List AV} {k : List AV → List AV → Prop} : tk 0 st acc k = k acc st := rfl
theorem tk_s {n : Nat} {v : AV} {acc : List AV} {k : List AV → List AV → Prop} : tk (n + 1) (v :: st) acc k = tk n st (v :: acc) k := rfl
theorem psh_n : psh none st = st := rfl
theorem psh_s {v : AV} : psh (some v) st = v :: st := rfl
theorem ent_e {n : Nat} {av : List AV} : ent n av = entL av ++ List.replicate (n - (entL av).length) (.inr (.inr none)) := rfl
theorem entL_n : entL [] = [] := rfl
theorem entL_c {v : AV} {r : List AV} : entL (v :: r) = if isL v = true then v :: .inr (.inr none) :: entL r else v :: entL r := rfl
theorem cc_eq {a b : Int} : ccond .eq a b = (a = b) := rfl
theorem cc_ne {a b : Int} : ccond .ne a b = (¬ a = b) := rfl
theorem cc_lt {a b : Int} : ccond .lt a b = (a < b) := rfl
theorem cc_ge {a b : Int} : ccond .ge a b = (b ≤ a) := rfl
theorem cc_gt {a b : Int} : ccond .gt a b = (b < a) := rfl
theorem cc_le {a b : Int} : ccond .le a b = (a ≤ b) := rfl
theorem lsw_n {x dd : Int} {f : Nat → Prop} : lsw x f dd [] = f dd.toNat := rfl
theorem lsw_c {x dd a t : Int} {f : Nat → Prop} {r : List (Int × Int)} : lsw x f dd ((a, t) :: r) = ((x = a → f t.toNat) ∧ (¬ x = a → lsw x f dd r)) := rfl
theorem mPs : mP 303 = 0 ∧ mP 304 = 0 ∧ mP 305 = 0 ∧ mP 306 = 1 ∧ mP 308 = 1 ∧ mP 309 = 2 := by decide +kernel
theorem NSTR_e : NSTR = 25 := rfl
theorem swt_n {x v : Int} {f : Nat → Prop} : swt x f [] v = True := rfl
theorem swt_c {x v t : Int} {f : Nat → Prop} {r : List Int} : swt x f (t :: r) v = ((x = v → f t.toNat) ∧ swt x f r (v + 1)) := rfl
theorem akds : akd 16 0 = true ∧ akd 17 0 = true ∧ akd 18 0 = true ∧ akd 19 0 = true ∧ akd 20 4 = false ∧ akd 20 5 = false ∧ akd 20 6 = true ∧ akd 21 0 = true ∧ akd 22 0 = true ∧ akd 23 0 = true ∧ akd 24 0 = true ∧ akd 25 0 = true ∧ akd 26 0 = true ∧ akd 27 0 = true ∧ akd 28 0 = true ∧ akd 29 0 = true ∧ akd 30 0 = true ∧ akd 31 0 = true ∧ akd 32 0 = true ∧ akd 33 0 = true ∧ akd 34 0 = true ∧ akd 35 0 = true ∧ akd 36 3 = true ∧ akd 37 0 = true ∧ akd 38 0 = true ∧ akd 39 0 = true ∧ akd 40 1 = true ∧ akd 40 2 = false ∧ akd 41 4 = true ∧ akd 41 5 = false ∧ akd 41 6 = false ∧ akd 42 4 = false ∧ akd 42 5 = true ∧ akd 42 6 = false ∧ akd 43 1 = false ∧ akd 43 2 = true ∧ akd 44 0 = true ∧ akd 45 1 = false ∧ akd 45 2 = true ∧ akd 46 0 = true ∧ akd 47 0 = true ∧ akd 48 0 = true ∧ akd 49 0 = true ∧ akd 50 0 = true ∧ akd 51 0 = true ∧ akd 52 0 = true ∧ akd 53 0 = true ∧ akd 54 0 = true ∧ akd 55 0 = true ∧ akd 56 0 = true ∧ akd 57 0 = true ∧ akd 58 3 = true := by decide +kernel
theorem alens (σ : Mem) (i : Nat) : ((alen σ 16 i : Nat) : Int) = 6 ∧ ((alen σ 17 i : Nat) : Int) = 6 ∧ ((alen σ 18 i : Nat) : Int) = 6 ∧ ((alen σ 19 i : Nat) : Int) = 64 ∧ ((alen σ 20 i : Nat) : Int) = 11 ∧ ((alen σ 21 i : Nat) : Int) = 8 ∧ ((alen σ 22 i : Nat) : Int) = 6 ∧ ((alen σ 23 i : Nat) : Int) = 36 ∧ ((alen σ 24 i : Nat) : Int) = ((σ 61 24 i).toNat : Nat) ∧ ((alen σ 25 i : Nat) : Int) = ((σ 61 25 i).toNat : Nat) ∧ ((alen σ 26 i : Nat) : Int) = 900 ∧ ((alen σ 27 i : Nat) : Int) = 64 ∧ ((alen σ 28 i : Nat) : Int) = 9 ∧ ((alen σ 29 i : Nat) : Int) = 6 ∧ ((alen σ 30 i : Nat) : Int) = 6 ∧ ((alen σ 31 i : Nat) : Int) = 6 ∧ ((alen σ 32 i : Nat) : Int) = 8 ∧ ((alen σ 33 i : Nat) : Int) = 6 ∧ ((alen σ 34 i : Nat) : Int) = 36 ∧ ((alen σ 35 i : Nat) : Int) = 8 ∧ ((alen σ 36 i : Nat) : Int) = 40 ∧ ((alen σ 37 i : Nat) : Int) = 30 ∧ ((alen σ 38 i : Nat) : Int) = 180 ∧ ((alen σ 39 i : Nat) : Int) = 6 ∧ ((alen σ 40 i : Nat) : Int) = 900 ∧ ((alen σ 41 i : Nat) : Int) = 4 ∧ ((alen σ 42 i : Nat) : Int) = 2 ∧ ((alen σ 43 i : Nat) : Int) = 2 ∧ ((alen σ 44 i : Nat) : Int) = 4542 ∧ ((alen σ 45 i : Nat) : Int) = 2 ∧ ((alen σ 46 i : Nat) : Int) = 900 ∧ ((alen σ 47 i : Nat) : Int) = 1514 ∧ ((alen σ 48 i : Nat) : Int) = 900 ∧ ((alen σ 49 i : Nat) : Int) = 9 ∧ ((alen σ 50 i : Nat) : Int) = 8 ∧ ((alen σ 51 i : Nat) : Int) = 54 ∧ ((alen σ 52 i : Nat) : Int) = 6 ∧ ((alen σ 53 i : Nat) : Int) = 6 ∧ ((alen σ 54 i : Nat) : Int) = 6 ∧ ((alen σ 55 i : Nat) : Int) = 360 ∧ ((alen σ 56 i : Nat) : Int) = 4 ∧ ((alen σ 57 i : Nat) : Int) = 4 ∧ ((alen σ 58 i : Nat) : Int) = 160 := by
  refine ⟨?_, ?_, ?_, ?_, ?_, ?_, ?_, ?_, ?_, ?_, ?_, ?_, ?_, ?_, ?_, ?_, ?_, ?_, ?_, ?_, ?_, ?_, ?_, ?_, ?_, ?_, ?_, ?_, ?_, ?_, ?_, ?_, ?_, ?_, ?_, ?_, ?_, ?_, ?_, ?_, ?_, ?_, ?_⟩ <;> rfl
theorem cnts (σ : Mem) : cnt σ 0 = 2 ∧ cnt σ 1 = 1 ∧ cnt σ 2 = 1 ∧ cnt σ 3 = (σ 60 0 0).toNat ∧ cnt σ 4 = 1 ∧ cnt σ 5 = 4 ∧ cnt σ 6 = 1 ∧ cnt σ 7 = 15 ∧ cnt σ 8 = 4 ∧ cnt σ 9 = 1 ∧ cnt σ 10 = 4 ∧ cnt σ 11 = 1 ∧ cnt σ 12 = 1 ∧ cnt σ 16 = 1 ∧ cnt σ 17 = 1 ∧ cnt σ 18 = 1 ∧ cnt σ 19 = 1 ∧ cnt σ 20 = 1 ∧ cnt σ 21 = (σ 60 0 0).toNat ∧ cnt σ 22 = (σ 60 0 0).toNat ∧ cnt σ 23 = (σ 60 0 0).toNat ∧ cnt σ 24 = (σ 60 0 0).toNat ∧ cnt σ 25 = (σ 60 0 0).toNat ∧ cnt σ 26 = 1 ∧ cnt σ 27 = 4 ∧ cnt σ 28 = 4 ∧ cnt σ 29 = 1 ∧ cnt σ 30 = 1 ∧ cnt σ 31 = 1 ∧ cnt σ 32 = 1 ∧ cnt σ 33 = 15 ∧ cnt σ 34 = 15 ∧ cnt σ 35 = 15 ∧ cnt σ 36 = 4 ∧ cnt σ 37 = 1 ∧ cnt σ 38 = 1 ∧ cnt σ 39 = 4 ∧ cnt σ 40 = 1 ∧ cnt σ 41 = 1 ∧ cnt σ 42 = 1 ∧ cnt σ 43 = 1 ∧ cnt σ 44 = 1 ∧ cnt σ 45 = 1 ∧ cnt σ 46 = 1 ∧ cnt σ 47 = 1 ∧ cnt σ 48 = 1 ∧ cnt σ 49 = 1 ∧ cnt σ 50 = 1 ∧ cnt σ 51 = 1 ∧ cnt σ 52 = 1 ∧ cnt σ 53 = 1 ∧ cnt σ 54 = 1 ∧ cnt σ 55 = 1 ∧ cnt σ 56 = 1 ∧ cnt σ 57 = 1 ∧ cnt σ 58 = 1 := by
  refine ⟨?_, ?_, ?_, ?_, ?_, ?_, ?_, ?_, ?_, ?_, ?_, ?_, ?_, ?_, ?_, ?_, ?_, ?_, ?_, ?_, ?_, ?_, ?_, ?_, ?_, ?_, ?_, ?_, ?_, ?_, ?_, ?_, ?_, ?_, ?_, ?_, ?_, ?_, ?_, ?_, ?_, ?_, ?_, ?_, ?_, ?_, ?_, ?_, ?_, ?_, ?_, ?_, ?_, ?_, ?_, ?_⟩ <;> rfl
theorem arfs : arf 20 = (7, 4) ∧ arf 41 = (8, 0) ∧ arf 42 = (10, 2) := by decide +kernel
theorem isks : isK 16 = true ∧ isK 17 = true ∧ isK 18 = true ∧ isK 19 = true ∧ isK 20 = true ∧ isK 21 = true ∧ isK 22 = true ∧ isK 23 = true ∧ isK 24 = true ∧ isK 25 = true ∧ isK 26 = true ∧ isK 27 = true ∧ isK 28 = true ∧ isK 29 = true ∧ isK 30 = true ∧ isK 31 = true ∧ isK 32 = true ∧ isK 33 = true ∧ isK 34 = true ∧ isK 35 = true ∧ isK 36 = true ∧ isK 37 = true ∧ isK 38 = true ∧ isK 39 = true ∧ isK 40 = true ∧ isK 41 = true ∧ isK 42 = true ∧ isK 43 = true ∧ isK 44 = true ∧ isK 45 = true ∧ isK 46 = true ∧ isK 47 = true ∧ isK 48 = true ∧ isK 49 = true ∧ isK 50 = true ∧ isK 51 = true ∧ isK 52 = true ∧ isK 53 = true ∧ isK 54 = true ∧ isK 55 = true ∧ isK 56 = true ∧ isK 57 = true ∧ isK 58 = true := by decide +kernel
theorem aets : aet 16 = 0 ∧ aet 17 = 0 ∧ aet 18 = 0 ∧ aet 19 = 0 ∧ aet 20 = 6 ∧ aet 21 = 0 ∧ aet 22 = 0 ∧ aet 23 = 0 ∧ aet 24 = 0 ∧ aet 25 = 0 ∧ aet 26 = 0 ∧ aet 27 = 0 ∧ aet 28 = 0 ∧ aet 29 = 0 ∧ aet 30 = 0 ∧ aet 31 = 0 ∧ aet 32 = 0 ∧ aet 33 = 0 ∧ aet 34 = 0 ∧ aet 35 = 0 ∧ aet 36 = 3 ∧ aet 37 = 0 ∧ aet 38 = 0 ∧ aet 39 = 0 ∧ aet 40 = 1 ∧ aet 41 = 4 ∧ aet 42 = 5 ∧ aet 43 = 2 ∧ aet 44 = 0 ∧ aet 45 = 2 ∧ aet 46 = 0 ∧ aet 47 = 0 ∧ aet 48 = 0 ∧ aet 49 = 0 ∧ aet 50 = 0 ∧ aet 51 = 0 ∧ aet 52 = 0 ∧ aet 53 = 0 ∧ aet 54 = 0 ∧ aet 55 = 0 ∧ aet 56 = 0 ∧ aet 57 = 0 ∧ aet 58 = 3 := by decide +kernel
theorem inb_e {K i : Nat} {z : Int} : inb σ K i z = (0 ≤ z ∧ z < (alen σ K i : Int) ∧ z < 2147483648) := rfl
theorem lcm_lt {a b : Int} : (lcm2 a b < 0) = (a < b) := by unfold lcm2; apply propext; split <;> (try split) <;> omega
theorem lcm_gt {a b : Int} : (0 < lcm2 a b) = (b < a) := by unfold lcm2; apply propext; split <;> (try split) <;> omega
theorem lcm_ge {a b : Int} : (0 ≤ lcm2 a b) = (b ≤ a) := by unfold lcm2; apply propext; split <;> (try split) <;> omega
theorem lcm_le {a b : Int} : (lcm2 a b ≤ 0) = (a ≤ b) := by unfold lcm2; apply propext; split <;> (try split) <;> omega
theorem lcm_eq {a b : Int} : (lcm2 a b = 0) = (a = b) := by unfold lcm2; apply propext; split <;> (try split) <;> omega
theorem lcm_a {a b : Int} : (-2147483648 ≤ lcm2 a b) = True := by unfold lcm2; apply propext; split <;> (try split) <;> simp
theorem lcm_b {a b : Int} : (lcm2 a b < 2147483648) = True := by unfold lcm2; apply propext; split <;> (try split) <;> simp
end EVAL
