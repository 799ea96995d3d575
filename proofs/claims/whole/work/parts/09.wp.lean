/-! 09: a method's body as one proposition (wp), and that it tells the truth of the machine -/
def popI (st : List AV) (k : Int → List AV → Prop) : Prop := match st with
  | .inl a :: r => k a r
  | _ => False
def popL (st : List AV) (k : Int → List AV → Prop) : Prop := match st with
  | .inr (.inl a) :: r => k a r
  | _ => False
def popR (st : List AV) (k : Nat → Nat → List AV → Prop) : Prop := match st with
  | .inr (.inr (some q)) :: r => k q.1 q.2 r
  | _ => False
def popV (st : List AV) (k : AV → List AV → Prop) : Prop := match st with
  | a :: r => k a r
  | _ => False
theorem popI_of {st : List AV} {k : Int → List AV → Prop} (h : popI st k) : ∃ a r, st = .inl a :: r ∧ k a r := by
  unfold popI at h
  split at h
  · exact ⟨_, _, rfl, h⟩
  · exact h.elim
theorem popL_of {st : List AV} {k : Int → List AV → Prop} (h : popL st k) : ∃ a r, st = .inr (.inl a) :: r ∧ k a r := by
  unfold popL at h
  split at h
  · exact ⟨_, _, rfl, h⟩
  · exact h.elim
theorem popR_of {st : List AV} {k : Nat → Nat → List AV → Prop} (h : popR st k) : ∃ a b r, st = .inr (.inr (some (a, b))) :: r ∧ k a b r := by
  unfold popR at h
  split at h
  · exact ⟨_, _, _, rfl, h⟩
  · exact h.elim
theorem popV_of {st : List AV} {k : AV → List AV → Prop} (h : popV st k) : ∃ a r, st = a :: r ∧ k a r := by
  unfold popV at h
  split at h
  · exact ⟨_, _, rfl, h⟩
  · exact h.elim
def getI (v : AV) (k : Int → Prop) : Prop := match v with
  | .inl a => k a
  | _ => False
def getL (v : AV) (k : Int → Prop) : Prop := match v with
  | .inr (.inl a) => k a
  | _ => False
def getR (v : AV) (k : Nat × Nat → Prop) : Prop := match v with
  | .inr (.inr (some q)) => k q
  | _ => False
theorem getI_of {v : AV} {k : Int → Prop} (h : getI v k) : ∃ a, v = .inl a ∧ k a := by
  unfold getI at h
  split at h
  · exact ⟨_, rfl, h⟩
  · exact h.elim
theorem getL_of {v : AV} {k : Int → Prop} (h : getL v k) : ∃ a, v = .inr (.inl a) ∧ k a := by
  unfold getL at h
  split at h
  · exact ⟨_, rfl, h⟩
  · exact h.elim
theorem getR_of {v : AV} {k : Nat × Nat → Prop} (h : getR v k) : ∃ a, v = .inr (.inr (some a)) ∧ k a := by
  unfold getR at h
  split at h
  · exact ⟨_, rfl, h⟩
  · exact h.elim
def tk : Nat → List AV → List AV → (List AV → List AV → Prop) → Prop
  | 0, st, acc, k => k acc st
  | _ + 1, [], _, _ => False
  | n + 1, v :: st, acc, k => tk n st (v :: acc) k
theorem tk_of : ∀ {n : Nat} {st acc : List AV} {k : List AV → List AV → Prop}, tk n st acc k → ∃ av rest, av.length = n ∧ st = av.reverse ++ rest ∧ k (av ++ acc) rest := by
  intro n
  induction n with
  | zero => intro st acc k h; exact ⟨[], st, rfl, rfl, h⟩
  | succ n ih =>
    intro st acc k h
    cases st with
    | nil => exact h.elim
    | cons v st =>
      obtain ⟨av, rest, h1, h2, h3⟩ := ih (st := st) (acc := v :: acc) h
      exact ⟨av ++ [v], rest, by simp [h1], by simp [h2], by simpa using h3⟩
/-- an array of the kind K, of elements t -/
def akd (K t : Nat) : Bool := isK K && !(decide (K < 13)) && aet K == t
theorem akd_of {K t : Nat} (h : akd K t = true) : isK K = true ∧ ¬ K < 13 ∧ aet K = t := by
  simp only [akd, Bool.and_eq_true, Bool.not_eq_true', decide_eq_false_iff_not, beq_iff_eq] at h
  exact ⟨h.1.1, h.1.2, h.2⟩
/-- a field of the class, by its slot: what it is -/
def fdk (x : Nat) : Nat × Nat × Nat × Nat := ((fds (x / 64))[x % 64]?).getD (9, 0, 0, 0)
/-- static checks of a resolved instruction -/
def chk (mx : Nat) (i : Instr) : Bool := match i with
  | .istore k => decide (k < mx)
  | .astore k => decide (k < mx)
  | .iinc k _ => decide (k < mx)
  | .lstore k => decide (k + 1 < mx)
  | .invokeinterface x _ => decide (x % 16 < 13)
  | _ => true
/-- the resolved forms of field instructions: the row of the machine that they are -/
def fraw (i : Instr) : Instr := match i with
  | .getstatic x => .getfield x
  | .checkcast y => .getfield (y / 2048)
  | .instanceof x => .getfield x
  | .putstatic x => .putfield x
  | .dstore x => .putfield x
  | i => i
def fchk (i : Instr) : Bool := match i with
  | .getfield x => decide (x / 64 < 13) && ((fdk x).1 == 0 || (fdk x).1 == 2)
  | .getstatic x => decide (x / 64 < 13) && (fdk x).1 == 1
  | .checkcast y => decide (y / 2048 / 64 < 13) && decide (fdk (y / 2048) = (3, y / 32 % 64, y / 16 % 2, y % 16))
  | .instanceof x => decide (x / 64 < 13) && decide (fdk x = (4, 3, 0, 0))
  | .putfield x => decide (x / 64 < 13) && (fdk x).1 == 0
  | .putstatic x => decide (x / 64 < 13) && (fdk x).1 == 2
  | .dstore x => decide (x / 64 < 13) && (fdk x).1 == 1
  | .ldc_w x => pOk x
  | _ => true
def bok (oc : Nat) (cc : ByteArray) (mx : Nat) : Nat → List Instr → Bool
  | _, [] => true
  | pc, i :: r => chk mx i && fchk i && match nxt oc cc pc (fraw i) with
    | some q => bok oc cc mx q r
    | none => false
def stp (d j : Nat) (K : Option AV → Mem → Prop) (i : Instr) (nx : List AV → List AV → Mem → Prop) (jp : Nat → List AV → List AV → Mem → Prop) (ls st : List AV) (σ : Mem) : Prop := match i with
  | .iload k => getI (lg ls k) (fun z => nx ls (.inl z :: st) σ)
  | .lload k => getL (lg ls k) (fun z => nx ls (.inr (.inl z) :: st) σ)
  | .aload k => getR (lg ls k) (fun q => nx ls (.inr (.inr (some q)) :: st) σ)
  | .istore k => popI st (fun z r => nx (ls1 ls k (.inl z)) r σ)
  | .lstore k => popL st (fun z r => nx (ls2 ls k (.inr (.inl z))) r σ)
  | .astore k => popR st (fun a b r => nx (ls1 ls k (.inr (.inr (some (a, b))))) r σ)
  | .iinc k v => getI (lg ls k) (fun z => nx (ls1 ls k (.inl (z + v))) st σ)
  | .sipush v => nx ls (.inl v :: st) σ
  | .jsr_w v => nx ls (.inr (.inl v) :: st) σ
  | .goto t => jp t.toNat ls st σ
  | .jsr t => jp t.toNat ls st σ
  | .goto_w t => Rn (d + 1) j t.toNat ls st σ K
  | .if_icmp c t => popI st (fun b r => popI r (fun a r => in32 a ∧ in32 b ∧ (ccond c a b → jp t.toNat ls r σ) ∧ (¬ ccond c a b → nx ls r σ)))
  | .ifCond c t => popI st (fun a r => in32 a ∧ (ccond c a 0 → jp t.toNat ls r σ) ∧ (¬ ccond c a 0 → nx ls r σ))
  | .iadd => popI st (fun b r => popI r (fun a r => nx ls (.inl (a + b) :: r) σ))
  | .isub => popI st (fun b r => popI r (fun a r => nx ls (.inl (a - b) :: r) σ))
  | .imul => popI st (fun b r => popI r (fun a r => nx ls (.inl (a * b) :: r) σ))
  | .idiv => popI st (fun b r => popI r (fun a r => in32 a ∧ in32 b ∧ ¬ b = 0 ∧ nx ls (.inl (a.tdiv b) :: r) σ))
  | .irem => popI st (fun b r => popI r (fun a r => in32 a ∧ in32 b ∧ ¬ b = 0 ∧ nx ls (.inl (a.tmod b) :: r) σ))
  | .iand => popI st (fun b r => popI r (fun a r => nx ls (.inl (iand a b) :: r) σ))
  | .ior => popI st (fun b r => popI r (fun a r => nx ls (.inl (ior a b) :: r) σ))
  | .ixor => popI st (fun b r => popI r (fun a r => nx ls (.inl (ixor a b) :: r) σ))
  | .ishl => popI st (fun b r => popI r (fun a r => nx ls (.inl (ishl a b) :: r) σ))
  | .ishr => popI st (fun b r => popI r (fun a r => nx ls (.inl (ishr a b) :: r) σ))
  | .iushr => popI st (fun b r => popI r (fun a r => nx ls (.inl (iushr a b) :: r) σ))
  | .ladd => popL st (fun b r => popL r (fun a r => nx ls (.inr (.inl (a + b)) :: r) σ))
  | .lsub => popL st (fun b r => popL r (fun a r => nx ls (.inr (.inl (a - b)) :: r) σ))
  | .lmul => popL st (fun b r => popL r (fun a r => nx ls (.inr (.inl (a * b)) :: r) σ))
  | .ldiv => popL st (fun b r => popL r (fun a r => in64 a ∧ in64 b ∧ ¬ b = 0 ∧ nx ls (.inr (.inl (a.tdiv b)) :: r) σ))
  | .lrem => popL st (fun b r => popL r (fun a r => in64 a ∧ in64 b ∧ ¬ b = 0 ∧ nx ls (.inr (.inl (a.tmod b)) :: r) σ))
  | .land => popL st (fun b r => popL r (fun a r => nx ls (.inr (.inl (jand a b)) :: r) σ))
  | .lor => popL st (fun b r => popL r (fun a r => nx ls (.inr (.inl (jor a b)) :: r) σ))
  | .lshl => popI st (fun b r => popL r (fun a r => nx ls (.inr (.inl (jshl a b)) :: r) σ))
  | .lshr => popI st (fun b r => popL r (fun a r => nx ls (.inr (.inl (jshr a b)) :: r) σ))
  | .i2l => popI st (fun a r => in32 a ∧ nx ls (.inr (.inl a) :: r) σ)
  | .l2i => popL st (fun a r => nx ls (.inl a :: r) σ)
  | .i2b => popI st (fun a r => nx ls (.inl (i2b a) :: r) σ)
  | .i2s => popI st (fun a r => nx ls (.inl (i2s a) :: r) σ)
  | .i2c => popI st (fun a r => nx ls (.inl (i2c a) :: r) σ)
  | .lcmp => popL st (fun b r => popL r (fun a r => in64 a ∧ in64 b ∧ nx ls (.inl (lcm2 a b) :: r) σ))
  | .dup => popV st (fun a r => isL a = false ∧ nx ls (a :: a :: r) σ)
  | .pop => popV st (fun a r => isL a = false ∧ nx ls r σ)
  | .dup2 => popV st (fun a r => if isL a = true then nx ls (a :: a :: r) σ else popV r (fun b r => isL b = false ∧ nx ls (a :: b :: a :: b :: r) σ))
  | .pop2 => popV st (fun a r => isL a = true ∧ nx ls r σ)
  | .getfield x => popR st (fun a i r => a = x / 64 ∧ i < cnt σ (x / 64) ∧ nx ls (.inl (σ (x / 64) i (x % 64)) :: r) σ)
  | .getstatic x => popR st (fun a i r => a = x / 64 ∧ i < cnt σ (x / 64) ∧ nx ls (.inr (.inl (σ (x / 64) i (x % 64))) :: r) σ)
  | .checkcast y => popR st (fun a i r => a = y / 2048 / 64 ∧ i < cnt σ (y / 2048 / 64) ∧ nx ls (.inr (.inr (some (y / 32 % 64, y / 16 % 2 * i + y % 16))) :: r) σ)
  | .instanceof x => popR st (fun a i r => a = x / 64 ∧ i < cnt σ (x / 64) ∧ nx ls (.inr (.inr (some (3, (σ (x / 64) i (x % 64)).toNat))) :: r) σ)
  | .putfield x => popI st (fun v r => popR r (fun a i r => a = x / 64 ∧ i < cnt σ (x / 64) ∧ nx ls r (mu σ (x / 64) i (x % 64) v)))
  | .putstatic x => popI st (fun v r => popR r (fun a i r => a = x / 64 ∧ i < cnt σ (x / 64) ∧ (v = 0 ∨ v = 1) ∧ nx ls r (mu σ (x / 64) i (x % 64) v)))
  | .dstore x => popL st (fun v r => popR r (fun a i r => a = x / 64 ∧ i < cnt σ (x / 64) ∧ nx ls r (mu σ (x / 64) i (x % 64) v)))
  | .iaload => popI st (fun z r => popR r (fun a i r => akd a 0 = true ∧ i < cnt σ a ∧ inb σ a i z ∧ nx ls (.inl (σ a i z.toNat) :: r) σ))
  | .baload => popI st (fun z r => popR r (fun a i r => (akd a 1 = true ∨ akd a 2 = true) ∧ i < cnt σ a ∧ inb σ a i z ∧ nx ls (.inl (σ a i z.toNat) :: r) σ))
  | .laload => popI st (fun z r => popR r (fun a i r => akd a 3 = true ∧ i < cnt σ a ∧ inb σ a i z ∧ nx ls (.inr (.inl (σ a i z.toNat)) :: r) σ))
  | .aaload => popI st (fun z r => popR r (fun a i r => (akd a 4 = true ∨ akd a 5 = true ∨ akd a 6 = true) ∧ i < cnt σ a ∧ inb σ a i z ∧ nx ls (.inr (.inr (some ((arf a).1, (arf a).2 + z.toNat))) :: r) σ))
  | .iastore => popI st (fun v r => popI r (fun z r => popR r (fun a i r => akd a 0 = true ∧ i < cnt σ a ∧ inb σ a i z ∧ nx ls r (mu σ a i z.toNat v))))
  | .bastore => popI st (fun v r => popI r (fun z r => popR r (fun a i r => ((akd a 1 = true ∧ -128 ≤ v ∧ v ≤ 127) ∨ (akd a 2 = true ∧ (v = 0 ∨ v = 1))) ∧ i < cnt σ a ∧ inb σ a i z ∧ nx ls r (mu σ a i z.toNat v))))
  | .lastore => popL st (fun v r => popI r (fun z r => popR r (fun a i r => akd a 3 = true ∧ i < cnt σ a ∧ inb σ a i z ∧ nx ls r (mu σ a i z.toNat v))))
  | .arraylength => popR st (fun a i r => isK a = true ∧ ¬ a < 13 ∧ aet a < 7 ∧ i < cnt σ a ∧ nx ls (.inl (alen σ a i : Int) :: r) σ)
  | .dcmp .g => popI st (fun b r => popI r (fun a r => in32 a ∧ in32 b ∧ r.length ≤ 4 ∧ nx ls (.inl (imax a b) :: r) σ))
  | .dcmp .l => popI st (fun b r => popI r (fun a r => in32 a ∧ in32 b ∧ r.length ≤ 4 ∧ nx ls (.inl (imin a b) :: r) σ))
  | .fcmp .g => popL st (fun b r => popL r (fun a r => in64 a ∧ in64 b ∧ r.length ≤ 4 ∧ nx ls (.inr (.inl (imax a b)) :: r) σ))
  | .fcmp .l => popL st (fun b r => popL r (fun a r => in64 a ∧ in64 b ∧ r.length ≤ 4 ∧ nx ls (.inr (.inl (imin a b)) :: r) σ))
  | .monitorenter => popI st (fun n r => popI r (fun dp r => popR r (fun a1 i1 r => popI r (fun sp r => popR r (fun a0 i0 r => akd a0 0 = true ∧ i0 < cnt σ a0 ∧ akd a1 0 = true ∧ i1 < cnt σ a1 ∧
      (0 ≤ sp ∧ 0 ≤ dp ∧ 0 ≤ n ∧ sp + n ≤ (alen σ a0 i0 : Int) ∧ dp + n ≤ (alen σ a1 i1 : Int) ∧ sp + n < 2147483648 ∧ dp + n < 2147483648) ∧ r.length ≤ 4 ∧ nx ls r (mcp σ a0 i0 a1 i1 sp.toNat dp.toNat n.toNat))))))
  | .tableswitch dd lo hi offs => popI st (fun x r => in32 x ∧ (x < lo ∨ hi < x → jp dd.toNat ls r σ) ∧ swt x (fun t => jp t ls r σ) offs.toList lo)
  | .multianewarray x n => tk n st [] (fun av r => r.length ≤ 4 ∧ Ev d x av σ (fun v σ' => nx ls (psh v r) σ'))
  | .invokeinterface x n => tk n st [] (fun av r => popR r (fun a i r => a = x % 16 ∧ i < cnt σ (x % 16) ∧ r.length ≤ 4 ∧ Ev d (x / 16) (.inr (.inr (some (x % 16, i))) :: av) σ (fun v σ' => nx ls (psh v r) σ')))
  | .ireturn => popI st (fun a r => r = [] ∧ (mR j = some .int ∨ (mR j = some .boolean ∧ (a = 0 ∨ a = 1))) ∧ K (some (.inl a)) σ)
  | .lreturn => popL st (fun a r => r = [] ∧ mR j = some .long ∧ K (some (.inr (.inl a))) σ)
  | .return_ => st = [] ∧ mR j = none ∧ K none σ
  | .ldc n => nx ls (.inr (.inr (some (63, n))) :: st) σ
  | .ldc_w x => popR st (fun a n r => a = 3 ∧ popR r (fun a i r => a = x / 64 ∧ i < cnt σ (x / 64) ∧ nx ls r (mu σ (x / 64) i (x % 64) (n : Int))))
  | .ldc2_w _k => popI st (fun a r => nx ls (.inr (.inl (a.bmod 4294967296)) :: r) σ)
  | .freturn => popI st (fun a r => r = [] ∧ ((mR j = some .byte ∧ -128 ≤ a ∧ a ≤ 127) ∨ (mR j = some .char ∧ 0 ≤ a ∧ a < 256)) ∧ K (some (.inl a)) σ)
  | .invokevirtual x => tk (mP x) st [] (fun av r => popR r (fun a i r => a = 63 ∧ i < NSTR ∧ r.length ≤ 4 ∧ Ev d x (.inr (.inr (some (63, i))) :: av) σ (fun v σ' => nx ls (psh v r) σ')))
  | .anewarray 0 => popR st (fun a n r => a = 63 ∧ n < NSTR ∧ nx ls (.inr (.inr (some (64, n))) :: r) σ)
  | .anewarray 1 => popR st (fun a n r => a = 63 ∧ n < NSTR ∧ nx ls (.inl 0 :: r) σ)
  | .anewarray 2 => nx ls (.inl 1 :: st) σ
  | .anewarray 3 => nx ls (.inr (.inr none) :: st) σ ∧ nx ls (.inr (.inr (some (66, 0))) :: st) σ
  | .anewarray 4 => popR st (fun a n r => a = 64 ∧ n < NSTR ∧ nx ls (.inl ((sby n).length : Int) :: r) σ)
  | .anewarray 5 => popI st (fun z r => popR r (fun a n r => a = 64 ∧ n < NSTR ∧ 0 ≤ z ∧ z < ((sby n).length : Int) ∧ z < 2147483648 ∧ nx ls (.inl ((sby n).getD z.toNat 0) :: r) σ))
  | .lookupswitch dd ps => popI st (fun x r => in32 x ∧ lsw x (fun t => jp t ls r σ) dd ps.toList)
  | _ => False
def wp (d j : Nat) (B : Nat → List Instr) (K : Option AV → Mem → Prop) : Nat → List Instr → List AV → List AV → Mem → Prop
  | 0, _, _, _, _ => False
  | _ + 1, [], _, _, _ => False
  | n + 1, i :: r, ls, st, σ => stp d j K i (wp d j B K n r) (fun t => wp d j B K n (B t)) ls st σ
