/-! 05: one rule an instruction -/
def dOk (cc : ByteArray) (pc : Nat) (i : Instr) (n : Nat) : Bool := decide (decode cc pc = .ok (i, n))
theorem dOk_spec {cc : ByteArray} {pc : Nat} {i : Instr} {n : Nat} (h : dOk cc pc i n = true) : decode cc pc = .ok (i, n) := of_decide_eq_true h
/-- the place behind the instruction i (in its resolved form) at pc; none: it isn't there -/
def nxt (oc : Nat) (cc : ByteArray) (pc : Nat) (i : Instr) : Option Nat := match i with
  | .iload k => if dOk cc pc (.iload k) 2 then some (pc + 2) else if k < 4 && dOk cc pc (.iload_n (Fin.ofNat 4 k)) 1 then some (pc + 1) else none
  | .lload k => if dOk cc pc (.lload k) 2 then some (pc + 2) else if k < 4 && dOk cc pc (.lload_n (Fin.ofNat 4 k)) 1 then some (pc + 1) else none
  | .aload k => if dOk cc pc (.aload k) 2 then some (pc + 2) else if k < 4 && dOk cc pc (.aload_n (Fin.ofNat 4 k)) 1 then some (pc + 1) else none
  | .istore k => if dOk cc pc (.istore k) 2 then some (pc + 2) else if k < 4 && dOk cc pc (.istore_n (Fin.ofNat 4 k)) 1 then some (pc + 1) else none
  | .lstore k => if dOk cc pc (.lstore k) 2 then some (pc + 2) else if k < 4 && dOk cc pc (.lstore_n (Fin.ofNat 4 k)) 1 then some (pc + 1) else none
  | .astore k => if dOk cc pc (.astore k) 2 then some (pc + 2) else if k < 4 && dOk cc pc (.astore_n (Fin.ofNat 4 k)) 1 then some (pc + 1) else none
  | .iinc k c => if dOk cc pc (.iinc k c) 3 then some (pc + 3) else none
  | .sipush v => if dOk cc pc (.iconst v) 1 then some (pc + 1) else if decide (-128 ≤ v ∧ v ≤ 127) && dOk cc pc (.bipush v) 2 then some (pc + 2) else if decide (-32768 ≤ v ∧ v ≤ 32767) && dOk cc pc (.sipush v) 3 then some (pc + 3)
      else if CIT.any (fun e => e.1 == oc && e.2.2 == v && dOk cc pc (.ldc e.2.1) 2) then some (pc + 2) else if CIT.any (fun e => e.1 == oc && e.2.2 == v && dOk cc pc (.ldc_w e.2.1) 3) then some (pc + 3) else none
  | .jsr_w v => if v == 0 && dOk cc pc (.lconst 0) 1 then some (pc + 1) else if v == 1 && dOk cc pc (.lconst 1) 1 then some (pc + 1) else if CJT.any (fun e => e.1 == oc && e.2.2 == v && dOk cc pc (.ldc2_w e.2.1) 3) then some (pc + 3) else none
  | .goto t => if decide (0 ≤ t) && dOk cc pc (.goto (t - pc)) 3 then some (pc + 3) else none
  | .if_icmp c t => if decide (0 ≤ t) && dOk cc pc (.if_icmp c (t - pc)) 3 then some (pc + 3) else none
  | .ifCond c t => if decide (0 ≤ t) && dOk cc pc (.ifCond c (t - pc)) 3 then some (pc + 3) else none
  | .jsr t => if t = (pc : Int) then some pc else none
  | .goto_w t => if t = (pc : Int) then some pc else none
  | .getfield x => if FLT.any (fun e => e.1 == oc && e.2.2.1 == x / 64 && e.2.2.2 == x % 64 && dOk cc pc (.getfield e.2.1) 3) then some (pc + 3) else if FLN.any (fun e => e.1 == oc && e.2.2.1 == x / 64 && e.2.2.2 == x % 64 && dOk cc pc (.getfield e.2.1) 3) then some (pc + 3) else none
  | .putfield x => if FLT.any (fun e => e.1 == oc && e.2.2.1 == x / 64 && e.2.2.2 == x % 64 && dOk cc pc (.putfield e.2.1) 3) then some (pc + 3) else if FLN.any (fun e => e.1 == oc && e.2.2.1 == x / 64 && e.2.2.2 == x % 64 && dOk cc pc (.putfield e.2.1) 3) then some (pc + 3) else none
  | .invokeinterface x n => if !(decide (x / 16 < 315) && mC (x / 16) == x % 16 && mP (x / 16) == n && !mS (x / 16)) then none else if MLT.any (fun e => e.1 == oc && e.2.2 == x / 16 && dOk cc pc (.invokevirtual e.2.1) 3) then some (pc + 3) else if MLN.any (fun e => e.1 == oc && e.2.2 == x / 16 && dOk cc pc (.invokevirtual e.2.1) 3) then some (pc + 3) else none
  | .multianewarray x n => if !(decide (x < 315) && mP x == n && mS x) then none else if MLT.any (fun e => e.1 == oc && e.2.2 == x && dOk cc pc (.invokestatic e.2.1) 3) then some (pc + 3) else if MLN.any (fun e => e.1 == oc && e.2.2 == x && dOk cc pc (.invokestatic e.2.1) 3) then some (pc + 3) else none
  | .dcmp o => if MXT.any (fun e => e.1 == oc && e.2.2 == (if o = .g then 0 else 1) && dOk cc pc (.invokestatic e.2.1) 3) then some (pc + 3) else none
  | .fcmp o => if MXT.any (fun e => e.1 == oc && e.2.2 == (if o = .g then 2 else 3) && dOk cc pc (.invokestatic e.2.1) 3) then some (pc + 3) else none
  | .monitorenter => if ACT.any (fun e => e.1 == oc && dOk cc pc (.invokestatic e.2) 3) then some (pc + 3) else none
  | .tableswitch d lo hi offs => match decode cc pc with
    | .ok (r, len) => if r = .tableswitch (d - pc) lo hi (offs.map (fun o => o - pc)) ∧ 0 ≤ d ∧ offs.all (fun o => decide (0 ≤ o)) = true ∧ (offs.size : Int) = hi - lo + 1 then some (pc + len) else none
    | _ => none
  | .ldc n => if STT.any (fun e => e.1 == oc && e.2.2 == n && dOk cc pc (.ldc e.2.1) 2) then some (pc + 2) else none
  | .ldc_w x => if FLT.any (fun e => e.1 == oc && e.2.2.1 == x / 64 && e.2.2.2 == x % 64 && dOk cc pc (.putfield e.2.1) 3) then some (pc + 3) else none
  | .ldc2_w _ => if dOk cc pc .i2l 1 then some (pc + 1) else none
  | .freturn => if dOk cc pc .ireturn 1 then some (pc + 1) else none
  | .invokevirtual x => if decide (x < 315) && mC x == 16 && !mS x && MLT.any (fun e => e.1 == oc && e.2.2 == x && dOk cc pc (.invokevirtual e.2.1) 3) then some (pc + 3) else none
  | .anewarray k => if k < 2 then (if oc == 16 && dOk cc pc (.getfield (sfl k).1) 3 then some (pc + 3) else none) else if k < 4 then (if oc == 16 && dOk cc pc (.getstatic (sfl k).1) 3 then some (pc + 3) else none) else if k == 4 then (if dOk cc pc .arraylength 1 then some (pc + 1) else none) else if dOk cc pc .baload 1 then some (pc + 1) else none
  | .lookupswitch d ps => match decode cc pc with
    | .ok (r, len) => if r = .lookupswitch (d - pc) (ps.map (fun o => (o.1, o.2 - pc))) ∧ 0 ≤ d ∧ ps.all (fun o => decide (0 ≤ o.2)) = true ∧ (ps.toList.zip (ps.toList.drop 1)).all (fun (a, next) => a.1 < next.1) = true then some (pc + len) else none
    | _ => none
  | i => if dOk cc pc i 1 then some (pc + 1) else none
def in32 (z : Int) : Prop := -2147483648 ≤ z ∧ z < 2147483648
def in64 (z : Int) : Prop := -9223372036854775808 ≤ z ∧ z < 9223372036854775808
theorem i32 {z : Int} (h : in32 z) : (Int32.ofInt z).toInt = z := by
  unfold in32 at h
  exact Int32.toInt_ofInt_of_le (by omega) (by omega)
theorem i64 {z : Int} (h : in64 z) : (Int64.ofInt z).toInt = z := by
  unfold in64 at h
  exact Int64.toInt_ofInt_of_le (by omega) (by omega)
theorem i32_lt {a b : Int} (ha : in32 a) (hb : in32 b) : Int32.ofInt a < Int32.ofInt b ↔ a < b := by rw [Int32.lt_iff_toInt_lt, i32 ha, i32 hb]
theorem i32_le {a b : Int} (ha : in32 a) (hb : in32 b) : Int32.ofInt a ≤ Int32.ofInt b ↔ a ≤ b := by rw [Int32.le_iff_toInt_le, i32 ha, i32 hb]
theorem i32_eq {a b : Int} (ha : in32 a) (hb : in32 b) : Int32.ofInt a = Int32.ofInt b ↔ a = b := by rw [← Int32.toInt_inj, i32 ha, i32 hb]
theorem i32_mod (z : Int) : Int32.ofInt (z.bmod 4294967296) = Int32.ofInt z := by
  rw [← Int32.toInt_inj, Int32.toInt_ofInt, Int32.toInt_ofInt]
  exact Int.bmod_bmod
theorem i64_mod (z : Int) : Int64.ofInt (z.bmod 18446744073709551616) = Int64.ofInt z := by
  rw [← Int64.toInt_inj, Int64.toInt_ofInt, Int64.toInt_ofInt]
  exact Int.bmod_bmod
theorem i32_div {a b : Int} (ha : in32 a) (hb : in32 b) : Int32.ofInt a / Int32.ofInt b = Int32.ofInt (a.tdiv b) := by
  rw [← Int32.toInt_inj, Int32.toInt_div, Int32.toInt_ofInt (n := a.tdiv b), i32 ha, i32 hb]
theorem i32_rem {a b : Int} (ha : in32 a) (hb : in32 b) : Int32.ofInt a % Int32.ofInt b = Int32.ofInt (a.tmod b) := by
  have h := Int32.ofInt_toInt (Int32.ofInt a % Int32.ofInt b)
  rw [Int32.toInt_mod, i32 ha, i32 hb] at h
  exact h.symm
theorem i64_div {a b : Int} (ha : in64 a) (hb : in64 b) : Int64.ofInt a / Int64.ofInt b = Int64.ofInt (a.tdiv b) := by
  rw [← Int64.toInt_inj, Int64.toInt_div, Int64.toInt_ofInt (n := a.tdiv b), i64 ha, i64 hb]
theorem i64_rem {a b : Int} (ha : in64 a) (hb : in64 b) : Int64.ofInt a % Int64.ofInt b = Int64.ofInt (a.tmod b) := by
  have h := Int64.ofInt_toInt (Int64.ofInt a % Int64.ofInt b)
  rw [Int64.toInt_mod, i64 ha, i64 hb] at h
  exact h.symm
def iand (a b : Int) : Int := (Int32.ofInt a &&& Int32.ofInt b).toInt
def ior (a b : Int) : Int := (Int32.ofInt a ||| Int32.ofInt b).toInt
def ixor (a b : Int) : Int := (Int32.ofInt a ^^^ Int32.ofInt b).toInt
def jand (a b : Int) : Int := (Int64.ofInt a &&& Int64.ofInt b).toInt
def jor (a b : Int) : Int := (Int64.ofInt a ||| Int64.ofInt b).toInt
def ishl (a b : Int) : Int := (Int32.ofInt a <<< (Int32.ofInt b &&& 31)).toInt
def ishr (a b : Int) : Int := (Int32.ofInt a >>> (Int32.ofInt b &&& 31)).toInt
def iushr (a b : Int) : Int := ((Int32.ofInt a).toUInt32 >>> ((Int32.ofInt b).toUInt32 &&& Int32.toUInt32 31)).toInt32.toInt
def jshl (a b : Int) : Int := (Int64.ofInt a <<< ((Int32.ofInt b).toInt64 &&& 63)).toInt
def jshr (a b : Int) : Int := (Int64.ofInt a >>> ((Int32.ofInt b).toInt64 &&& 63)).toInt
def i2b (a : Int) : Int := a.bmod 256
def i2s (a : Int) : Int := a.bmod 65536
def i2c (a : Int) : Int := ((Int32.ofInt a).toUInt32 % 65536).toInt32.toInt
/-- what lcmp leaves -/
def lcm2 (a b : Int) : Int := if a > b then 1 else if a = b then 0 else -1
theorem lg_cmp_of {a b : Int} (ha : in64 a) (hb : in64 b) : lg_cmp (Int64.ofInt a) (Int64.ofInt b) = Int32.ofInt (lcm2 a b) := by
  have h1 : Int64.ofInt a > Int64.ofInt b ↔ a > b := by rw [gt_iff_lt, Int64.lt_iff_toInt_lt, i64 ha, i64 hb]
  have h2 : Int64.ofInt a = Int64.ofInt b ↔ a = b := by rw [← Int64.toInt_inj, i64 ha, i64 hb]
  unfold lg_cmp lcm2
  by_cases c1 : a > b
  · rw [if_pos c1, if_pos (h1.mpr c1)]; rfl
  · rw [if_neg c1, if_neg (fun h => c1 (h1.mp h))]
    by_cases c2 : a = b
    · rw [if_pos c2, if_pos (h2.mpr c2)]; rfl
    · rw [if_neg c2, if_neg (fun h => c2 (h2.mp h))]; rfl
def ccond (c : Jvm.ClassFile.Cond) (a b : Int) : Prop := match c with
  | .eq => a = b
  | .ne => ¬ a = b
  | .lt => a < b
  | .ge => b ≤ a
  | .gt => b < a
  | .le => a ≤ b
def inb (σ : Mem) (K i : Nat) (z : Int) : Prop := 0 ≤ z ∧ z < (alen σ K i : Int) ∧ z < 2147483648
theorem clampz {z : Int} (h : in32 z) : (Int32.ofInt z).toNatClampNeg = z.toNat := by
  show (Int32.ofInt z).toInt.toNat = z.toNat
  rw [i32 h]
theorem inb_spec {σ : Mem} {K i : Nat} {z : Int} (h : inb σ K i z) : vp_in (Int32.ofInt z) (alen σ K i) ∧ (Int32.ofInt z).toNatClampNeg = z.toNat := by
  obtain ⟨h1, h2, h3⟩ := h
  have hz : in32 z := ⟨by omega, h3⟩
  refine ⟨?_, clampz hz⟩
  unfold vp_in
  rw [clampz hz]
  rintro (h | h)
  · have : Int32.ofInt z < Int32.ofInt 0 := h
    rw [i32_lt hz ⟨by omega, by omega⟩] at this
    omega
  · omega
section RULES
variable {d : XR} {j pc pc' : Nat} {ls st : List AV} {σ : Mem} {K : YQ}
theorem R_iload {k : Nat} {z : Int} (hn : nxt (mC j) (mB j) pc (.iload k) = some pc') (hv : lg ls k = .inl z) (hk : RnG d j pc' ls (.inl z :: st) σ K) : RnG d j pc ls st σ K := by
  intro p l e s m args below meth c D dA ρ A H locs la C hl hP hD hS
  have G := hk p l e s m args below meth c D dA ρ A H locs la C hl hP hD hS
  have hg := lv_get hl hv rfl
  simp only [nxt] at hn
  split at hn
  · rename_i h; cases hn
    exact lv_iload C.1 C.2.1 (dOk_spec h) hg G
  · split at hn
    · rename_i h; cases hn
      simp only [Bool.and_eq_true, decide_eq_true_eq] at h
      exact lv_iload_n C.1 C.2.1 (dOk_spec h.2) (by simp [Fin.ofNat, Nat.mod_eq_of_lt h.1]) hg G
    · cases hn
theorem R_lload {k : Nat} {z : Int} (hn : nxt (mC j) (mB j) pc (.lload k) = some pc') (hv : lg ls k = .inr (.inl z)) (hk : RnG d j pc' ls (.inr (.inl z) :: st) σ K) : RnG d j pc ls st σ K := by
  intro p l e s m args below meth c D dA ρ A H locs la C hl hP hD hS
  have G := hk p l e s m args below meth c D dA ρ A H locs la C hl hP hD hS
  have hg := lv_get hl hv rfl
  simp only [nxt] at hn
  split at hn
  · rename_i h; cases hn
    exact lv_lload C.1 C.2.1 (dOk_spec h) hg G
  · split at hn
    · rename_i h; cases hn
      simp only [Bool.and_eq_true, decide_eq_true_eq] at h
      exact lv_lload_n C.1 C.2.1 (dOk_spec h.2) (by simp [Fin.ofNat, Nat.mod_eq_of_lt h.1]) hg G
    · cases hn
theorem R_aload {k : Nat} {q : Nat × Nat} (hn : nxt (mC j) (mB j) pc (.aload k) = some pc') (hv : lg ls k = .inr (.inr (some q))) (hk : RnG d j pc' ls (.inr (.inr (some q)) :: st) σ K) : RnG d j pc ls st σ K := by
  intro p l e s m args below meth c D dA ρ A H locs la C hl hP hD hS
  have G := hk p l e s m args below meth c D dA ρ A H locs la C hl hP hD hS
  have hg := lv_get hl hv rfl
  simp only [nxt] at hn
  split at hn
  · rename_i h; cases hn
    exact lv_aload C.1 C.2.1 (dOk_spec h) hg G
  · split at hn
    · rename_i h; cases hn
      simp only [Bool.and_eq_true, decide_eq_true_eq] at h
      exact lv_aload_n C.1 C.2.1 (dOk_spec h.2) (by simp [Fin.ofNat, Nat.mod_eq_of_lt h.1]) hg G
    · cases hn
theorem R_istore {k : Nat} {z : Int} (hn : nxt (mC j) (mB j) pc (.istore k) = some pc') (hm : k < mL j) (hk : RnG d j pc' (ls1 ls k (.inl z)) st σ K) : RnG d j pc ls (.inl z :: st) σ K := by
  intro p l e s m args below meth c D dA ρ A H locs la C hl hP hD hS
  simp only [nxt] at hn
  split at hn
  · rename_i h; cases hn
    refine lv_istore C.1 C.2.1 (dOk_spec h) hl hm rfl (fun la' hl' => ?_)
    exact hk p l e s m args below meth c D dA ρ A H locs la' C (lv_set1 (v := .inl z) hl') hP hD hS
  · split at hn
    · rename_i h; cases hn
      simp only [Bool.and_eq_true, decide_eq_true_eq] at h
      refine lv_istore_n C.1 C.2.1 (dOk_spec h.2) (by simp [Fin.ofNat, Nat.mod_eq_of_lt h.1]) hl hm rfl (fun la' hl' => ?_)
      exact hk p l e s m args below meth c D dA ρ A H locs la' C (lv_set1 (v := .inl z) hl') hP hD hS
    · cases hn
theorem R_astore {k : Nat} {q : Nat × Nat} (hn : nxt (mC j) (mB j) pc (.astore k) = some pc') (hm : k < mL j) (hk : RnG d j pc' (ls1 ls k (.inr (.inr (some q)))) st σ K) : RnG d j pc ls (.inr (.inr (some q)) :: st) σ K := by
  intro p l e s m args below meth c D dA ρ A H locs la C hl hP hD hS
  simp only [nxt] at hn
  split at hn
  · rename_i h; cases hn
    refine lv_astore C.1 C.2.1 (dOk_spec h) hl hm rfl (fun la' hl' => ?_)
    exact hk p l e s m args below meth c D dA ρ A H locs la' C (lv_set1 (v := .inr (.inr (some q))) hl') hP hD hS
  · split at hn
    · rename_i h; cases hn
      simp only [Bool.and_eq_true, decide_eq_true_eq] at h
      refine lv_astore_n C.1 C.2.1 (dOk_spec h.2) (by simp [Fin.ofNat, Nat.mod_eq_of_lt h.1]) hl hm rfl (fun la' hl' => ?_)
      exact hk p l e s m args below meth c D dA ρ A H locs la' C (lv_set1 (v := .inr (.inr (some q))) hl') hP hD hS
    · cases hn
theorem R_lstore {k : Nat} {z : Int} (hn : nxt (mC j) (mB j) pc (.lstore k) = some pc') (hm : k + 1 < mL j) (hk : RnG d j pc' (ls2 ls k (.inr (.inl z))) st σ K) : RnG d j pc ls (.inr (.inl z) :: st) σ K := by
  intro p l e s m args below meth c D dA ρ A H locs la C hl hP hD hS
  simp only [nxt] at hn
  split at hn
  · rename_i h; cases hn
    refine lv_lstore C.1 C.2.1 (dOk_spec h) hl hm rfl (fun la' hl' => ?_)
    exact hk p l e s m args below meth c D dA ρ A H locs la' C (lv_set2 (v := .inr (.inl z)) hl') hP hD hS
  · split at hn
    · rename_i h; cases hn
      simp only [Bool.and_eq_true, decide_eq_true_eq] at h
      refine lv_lstore_n C.1 C.2.1 (dOk_spec h.2) (by simp [Fin.ofNat, Nat.mod_eq_of_lt h.1]) hl hm rfl (fun la' hl' => ?_)
      exact hk p l e s m args below meth c D dA ρ A H locs la' C (lv_set2 (v := .inr (.inl z)) hl') hP hD hS
    · cases hn
theorem R_iinc {k : Nat} {v z : Int} (hn : nxt (mC j) (mB j) pc (.iinc k v) = some pc') (hv : lg ls k = .inl z) (hm : k < mL j) (hk : RnG d j pc' (ls1 ls k (.inl (z + v))) st σ K) : RnG d j pc ls st σ K := by
  intro p l e s m args below meth c D dA ρ A H locs la C hl hP hD hS
  simp only [nxt] at hn
  split at hn
  · rename_i h; cases hn
    have hmem : (k, Value.int (Int32.ofInt z)) ∈ lvp ρ 0 ls := (lvp_mem ρ ls 0 _).mpr ⟨k, lg_len (by rw [hv]; rfl), by rw [hv]; simp [cv], by rw [hv]; rfl⟩
    obtain ⟨i, hi⟩ := List.getElem?_of_mem hmem
    refine lv_iinc C.1 C.2.1 (dOk_spec h) hl hi (by rw [← Int32.ofInt_add]) hm rfl (fun la' hl' => ?_)
    exact hk p l e s m args below meth c D dA ρ A H locs la' C (lv_set1 (v := .inl (z + v)) hl') hP hD hS
  · cases hn
theorem R_iconst {v : Int} (hn : nxt (mC j) (mB j) pc (.sipush v) = some pc') (hk : RnG d j pc' ls (.inl v :: st) σ K) : RnG d j pc ls st σ K := by
  intro p l e s m args below meth c D dA ρ A H locs la C hl hP hD hS
  have G := hk p l e s m args below meth c D dA ρ A H locs la C hl hP hD hS
  simp only [nxt] at hn
  split at hn
  · rename_i h; cases hn
    exact lv_iconst C.1 C.2.1 (dOk_spec h) rfl G
  · split at hn
    · rename_i h; cases hn
      simp only [Bool.and_eq_true, decide_eq_true_eq] at h
      exact lv_bipush C.1 C.2.1 (dOk_spec h.2) (Int8.toInt32_ofInt h.1.1 h.1.2) G
    · split at hn
      · rename_i h; cases hn
        simp only [Bool.and_eq_true, decide_eq_true_eq] at h
        exact lv_sipush C.1 C.2.1 (dOk_spec h.2) (Int16.toInt32_ofInt h.1.1 h.1.2) G
      · split at hn
        · rename_i h; cases hn
          obtain ⟨e1, h1, h2⟩ := List.any_eq_true.mp h
          simp only [Bool.and_eq_true, beq_iff_eq] at h2
          exact lv_ldc (own := cnm (mC j)) C.1 C.2.1 C.2.2.2.2.2.1 (C.2.2.2.2.1 _ (ci_in _ (List.mem_map.mpr ⟨e1, h1, by rw [h2.1.1, h2.1.2]⟩))) (dOk_spec h2.2) G
        · split at hn
          · rename_i h; cases hn
            obtain ⟨e1, h1, h2⟩ := List.any_eq_true.mp h
            simp only [Bool.and_eq_true, beq_iff_eq] at h2
            exact lv_ldcw (own := cnm (mC j)) C.1 C.2.1 C.2.2.2.2.2.1 (C.2.2.2.2.1 _ (ci_in _ (List.mem_map.mpr ⟨e1, h1, by rw [h2.1.1, h2.1.2]⟩))) (dOk_spec h2.2) G
          · cases hn
theorem R_lconst {v : Int} (hn : nxt (mC j) (mB j) pc (.jsr_w v) = some pc') (hk : RnG d j pc' ls (.inr (.inl v) :: st) σ K) : RnG d j pc ls st σ K := by
  intro p l e s m args below meth c D dA ρ A H locs la C hl hP hD hS
  have G := hk p l e s m args below meth c D dA ρ A H locs la C hl hP hD hS
  simp only [nxt] at hn
  split at hn
  · rename_i h; cases hn
    simp only [Bool.and_eq_true, beq_iff_eq] at h
    rw [h.1] at G
    exact lv_lconst C.1 C.2.1 (dOk_spec h.2) rfl G
  · split at hn
    · rename_i h; cases hn
      simp only [Bool.and_eq_true, beq_iff_eq] at h
      rw [h.1] at G
      exact lv_lconst C.1 C.2.1 (dOk_spec h.2) rfl G
    · split at hn
      · rename_i h; cases hn
        obtain ⟨e1, h1, h2⟩ := List.any_eq_true.mp h
        simp only [Bool.and_eq_true, beq_iff_eq] at h2
        exact lv_ldc2 (own := cnm (mC j)) C.1 C.2.1 C.2.2.2.2.2.1 (C.2.2.2.2.1 _ (cj_in _ (List.mem_map.mpr ⟨e1, h1, by rw [h2.1.1, h2.1.2]⟩))) (dOk_spec h2.2) G
      · cases hn
theorem R_goto {t : Nat} (hn : nxt (mC j) (mB j) pc (.goto (t : Int)) = some pc') (hk : RnG d j t ls st σ K) : RnG d j pc ls st σ K := by
  intro p l e s m args below meth c D dA ρ A H locs la C hl hP hD hS
  have G := hk p l e s m args below meth c D dA ρ A H locs la C hl hP hD hS
  simp only [nxt] at hn
  split at hn
  · rename_i h
    simp only [Bool.and_eq_true, decide_eq_true_eq] at h
    exact lv_goto C.1 C.2.1 (dOk_spec h.2) (by omega) G
  · cases hn
theorem R_icmp {cc : Jvm.ClassFile.Cond} {t : Nat} {a b : Int} (hn : nxt (mC j) (mB j) pc (.if_icmp cc (t : Int)) = some pc') (ha : in32 a) (hb : in32 b) (kt : ccond cc a b → RnG d j t ls st σ K) (kf : ¬ ccond cc a b → RnG d j pc' ls st σ K) : RnG d j pc ls (.inl b :: .inl a :: st) σ K := by
  intro p l e s m args below meth c D dA ρ A H locs la C hl hP hD hS
  have kt' := fun x => kt x p l e s m args below meth c D dA ρ A H locs la C hl hP hD hS
  have kf' := fun x => kf x p l e s m args below meth c D dA ρ A H locs la C hl hP hD hS
  simp only [nxt] at hn
  split at hn
  · rename_i h
    simp only [Bool.and_eq_true, decide_eq_true_eq] at h
    cases hn
    have hd := dOk_spec h.2
    cases cc with
    | eq => exact lv_icmp_eq C.1 C.2.1 hd (by omega) (fun x => kt' ((i32_eq ha hb).mp x)) (fun x => kf' (fun y => x ((i32_eq ha hb).mpr y)))
    | ne => exact lv_icmp_ne C.1 C.2.1 hd (by omega) (fun x => kt' (fun y => x ((i32_eq ha hb).mpr y))) (fun x => kf' (fun y => y ((i32_eq ha hb).mp x)))
    | lt => exact lv_icmp_lt C.1 C.2.1 hd (by omega) (fun x => kt' ((i32_lt ha hb).mp x)) (fun x => kf' (fun y => x ((i32_lt ha hb).mpr y)))
    | ge => exact lv_icmp_ge C.1 C.2.1 hd (by omega) (fun x => kt' ((i32_le hb ha).mp x)) (fun x => kf' (fun y => x ((i32_le hb ha).mpr y)))
    | gt => exact lv_icmp_gt C.1 C.2.1 hd (by omega) (fun x => kt' ((i32_lt hb ha).mp x)) (fun x => kf' (fun y => x ((i32_lt hb ha).mpr y)))
    | le => exact lv_icmp_le C.1 C.2.1 hd (by omega) (fun x => kt' ((i32_le ha hb).mp x)) (fun x => kf' (fun y => x ((i32_le ha hb).mpr y)))
  · cases hn
theorem z32 : in32 0 := ⟨by decide, by decide⟩
theorem R_if {cc : Jvm.ClassFile.Cond} {t : Nat} {a : Int} (hn : nxt (mC j) (mB j) pc (.ifCond cc (t : Int)) = some pc') (ha : in32 a) (kt : ccond cc a 0 → RnG d j t ls st σ K) (kf : ¬ ccond cc a 0 → RnG d j pc' ls st σ K) : RnG d j pc ls (.inl a :: st) σ K := by
  intro p l e s m args below meth c D dA ρ A H locs la C hl hP hD hS
  have kt' := fun x => kt x p l e s m args below meth c D dA ρ A H locs la C hl hP hD hS
  have kf' := fun x => kf x p l e s m args below meth c D dA ρ A H locs la C hl hP hD hS
  simp only [nxt] at hn
  split at hn
  · rename_i h
    simp only [Bool.and_eq_true, decide_eq_true_eq] at h
    cases hn
    have hd := dOk_spec h.2
    cases cc with
    | eq => exact lv_if_eq C.1 C.2.1 hd (by omega) (fun x => kt' ((i32_eq ha z32).mp x)) (fun x => kf' (fun y => x ((i32_eq ha z32).mpr y)))
    | ne => exact lv_if_ne C.1 C.2.1 hd (by omega) (fun x => kt' (fun y => x ((i32_eq ha z32).mpr y))) (fun x => kf' (fun y => y ((i32_eq ha z32).mp x)))
    | lt => exact lv_if_lt C.1 C.2.1 hd (by omega) (fun x => kt' ((i32_lt ha z32).mp x)) (fun x => kf' (fun y => x ((i32_lt ha z32).mpr y)))
    | ge => exact lv_if_ge C.1 C.2.1 hd (by omega) (fun x => kt' ((i32_le z32 ha).mp x)) (fun x => kf' (fun y => x ((i32_le z32 ha).mpr y)))
    | gt => exact lv_if_gt C.1 C.2.1 hd (by omega) (fun x => kt' ((i32_lt z32 ha).mp x)) (fun x => kf' (fun y => x ((i32_lt z32 ha).mpr y)))
    | le => exact lv_if_le C.1 C.2.1 hd (by omega) (fun x => kt' ((i32_le ha z32).mp x)) (fun x => kf' (fun y => x ((i32_le ha z32).mpr y)))
  · cases hn
end RULES
