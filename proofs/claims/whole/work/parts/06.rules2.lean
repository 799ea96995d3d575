/-! 06: arithmetic, stack, arrays, ends -/
theorem i32_rm {a b : Int} (ha : in32 a) (hb : in32 b) : Int32.ofInt a - Int32.ofInt a / Int32.ofInt b * Int32.ofInt b = Int32.ofInt (a.tmod b) := by
  rw [i32_div ha hb, ← Int32.ofInt_mul, ← Int32.ofInt_sub, Int.tmod_def, Int.mul_comm]
theorem i64_rm {a b : Int} (ha : in64 a) (hb : in64 b) : Int64.ofInt a - Int64.ofInt a / Int64.ofInt b * Int64.ofInt b = Int64.ofInt (a.tmod b) := by
  rw [i64_div ha hb, ← Int64.ofInt_mul, ← Int64.ofInt_sub, Int.tmod_def, Int.mul_comm]
theorem i2b_of (a : Int) : (Int32.ofInt a).toInt8.toInt32 = Int32.ofInt (i2b a) := by
  rw [← Int32.toInt_inj, Int8.toInt_toInt32, Int32.toInt8_ofInt, Int8.toInt_ofInt]
  have h1 := Int.bmod_lt (x := a) (m := 256) (by decide)
  have h2 := Int.le_bmod (x := a) (m := 256) (by decide)
  rw [i32 ⟨by unfold i2b; omega, by unfold i2b; omega⟩]
  rfl
theorem i2s_of (a : Int) : (Int32.ofInt a).toInt16.toInt32 = Int32.ofInt (i2s a) := by
  rw [← Int32.toInt_inj, Int16.toInt_toInt32, Int32.toInt16_ofInt, Int16.toInt_ofInt]
  have h1 := Int.bmod_lt (x := a) (m := 65536) (by decide)
  have h2 := Int.le_bmod (x := a) (m := 65536) (by decide)
  rw [i32 ⟨by unfold i2s; omega, by unfold i2s; omega⟩]
  rfl
theorem nar_b {v : Int} (h : -128 ≤ v ∧ v ≤ 127) : vp_nar .byte (Int32.ofInt v) = Int32.ofInt v := by
  show (Int32.ofInt v).toInt8.toInt32 = Int32.ofInt v
  rw [i2b_of]
  unfold i2b
  rw [Int.bmod_eq_of_le (by omega) (by omega)]
theorem nar_zv {v : Int} (h : v = 0 ∨ v = 1) : narrow .boolean (.int (Int32.ofInt v)) = .int (Int32.ofInt v) := by
  rcases h with rfl | rfl <;> rfl
theorem nar_z {v : Int} (h : v = 0 ∨ v = 1) : vp_nar .boolean (Int32.ofInt v) = Int32.ofInt v := by
  rcases h with rfl | rfl <;> rfl
section RULES2
variable {d : XR} {j pc pc' : Nat} {ls st : List AV} {σ : Mem} {K : YQ}
theorem R_iadd {a b : Int} (hn : nxt (mC j) (mB j) pc .iadd = some pc') (hk : RnG d j pc' ls (.inl (a + b) :: st) σ K) : RnG d j pc ls (.inl b :: .inl a :: st) σ K := by
  intro p l e s m args below meth c D dA ρ A H locs la C hl hP hD hS
  have G := hk p l e s m args below meth c D dA ρ A H locs la C hl hP hD hS
  simp only [nxt] at hn
  split at hn
  · rename_i h; cases hn
    simp only [List.map_cons, cv, Int32.ofInt_add] at G ⊢
    exact lv_iadd C.1 C.2.1 (dOk_spec h) G
  · cases hn

theorem R_isub {a b : Int} (hn : nxt (mC j) (mB j) pc .isub = some pc') (hk : RnG d j pc' ls (.inl (a - b) :: st) σ K) : RnG d j pc ls (.inl b :: .inl a :: st) σ K := by
  intro p l e s m args below meth c D dA ρ A H locs la C hl hP hD hS
  have G := hk p l e s m args below meth c D dA ρ A H locs la C hl hP hD hS
  simp only [nxt] at hn
  split at hn
  · rename_i h; cases hn
    simp only [List.map_cons, cv, Int32.ofInt_sub] at G ⊢
    exact lv_isub C.1 C.2.1 (dOk_spec h) G
  · cases hn

theorem R_imul {a b : Int} (hn : nxt (mC j) (mB j) pc .imul = some pc') (hk : RnG d j pc' ls (.inl (a * b) :: st) σ K) : RnG d j pc ls (.inl b :: .inl a :: st) σ K := by
  intro p l e s m args below meth c D dA ρ A H locs la C hl hP hD hS
  have G := hk p l e s m args below meth c D dA ρ A H locs la C hl hP hD hS
  simp only [nxt] at hn
  split at hn
  · rename_i h; cases hn
    simp only [List.map_cons, cv, Int32.ofInt_mul] at G ⊢
    exact lv_imul C.1 C.2.1 (dOk_spec h) G
  · cases hn

theorem R_ladd {a b : Int} (hn : nxt (mC j) (mB j) pc .ladd = some pc') (hk : RnG d j pc' ls (.inr (.inl (a + b)) :: st) σ K) : RnG d j pc ls (.inr (.inl b) :: .inr (.inl a) :: st) σ K := by
  intro p l e s m args below meth c D dA ρ A H locs la C hl hP hD hS
  have G := hk p l e s m args below meth c D dA ρ A H locs la C hl hP hD hS
  simp only [nxt] at hn
  split at hn
  · rename_i h; cases hn
    simp only [List.map_cons, cv, Int64.ofInt_add] at G ⊢
    exact lv_ladd C.1 C.2.1 (dOk_spec h) G
  · cases hn

theorem R_lsub {a b : Int} (hn : nxt (mC j) (mB j) pc .lsub = some pc') (hk : RnG d j pc' ls (.inr (.inl (a - b)) :: st) σ K) : RnG d j pc ls (.inr (.inl b) :: .inr (.inl a) :: st) σ K := by
  intro p l e s m args below meth c D dA ρ A H locs la C hl hP hD hS
  have G := hk p l e s m args below meth c D dA ρ A H locs la C hl hP hD hS
  simp only [nxt] at hn
  split at hn
  · rename_i h; cases hn
    simp only [List.map_cons, cv, Int64.ofInt_sub] at G ⊢
    exact lv_lsub C.1 C.2.1 (dOk_spec h) G
  · cases hn

theorem R_lmul {a b : Int} (hn : nxt (mC j) (mB j) pc .lmul = some pc') (hk : RnG d j pc' ls (.inr (.inl (a * b)) :: st) σ K) : RnG d j pc ls (.inr (.inl b) :: .inr (.inl a) :: st) σ K := by
  intro p l e s m args below meth c D dA ρ A H locs la C hl hP hD hS
  have G := hk p l e s m args below meth c D dA ρ A H locs la C hl hP hD hS
  simp only [nxt] at hn
  split at hn
  · rename_i h; cases hn
    simp only [List.map_cons, cv, Int64.ofInt_mul] at G ⊢
    exact lv_lmul C.1 C.2.1 (dOk_spec h) G
  · cases hn

theorem R_idiv {a b : Int} (hn : nxt (mC j) (mB j) pc .idiv = some pc') (ha : in32 a) (hb : in32 b) (hz : ¬ b = 0) (hk : RnG d j pc' ls (.inl (a.tdiv b) :: st) σ K) : RnG d j pc ls (.inl b :: .inl a :: st) σ K := by
  intro p l e s m args below meth c D dA ρ A H locs la C hl hP hD hS
  have G := hk p l e s m args below meth c D dA ρ A H locs la C hl hP hD hS
  simp only [nxt] at hn
  split at hn
  · rename_i h; cases hn
    simp only [List.map_cons, cv] at G ⊢
    rw [← i32_div ha hb] at G
    exact lv_idiv C.1 C.2.1 (dOk_spec h) (fun x => hz ((i32_eq hb z32).mp x)) G
  · cases hn

theorem R_irem {a b : Int} (hn : nxt (mC j) (mB j) pc .irem = some pc') (ha : in32 a) (hb : in32 b) (hz : ¬ b = 0) (hk : RnG d j pc' ls (.inl (a.tmod b) :: st) σ K) : RnG d j pc ls (.inl b :: .inl a :: st) σ K := by
  intro p l e s m args below meth c D dA ρ A H locs la C hl hP hD hS
  have G := hk p l e s m args below meth c D dA ρ A H locs la C hl hP hD hS
  simp only [nxt] at hn
  split at hn
  · rename_i h; cases hn
    simp only [List.map_cons, cv] at G ⊢
    rw [← i32_rm ha hb] at G
    exact lv_irem C.1 C.2.1 (dOk_spec h) (fun x => hz ((i32_eq hb z32).mp x)) G
  · cases hn

theorem R_ldiv {a b : Int} (hn : nxt (mC j) (mB j) pc .ldiv = some pc') (ha : in64 a) (hb : in64 b) (hz : ¬ b = 0) (hk : RnG d j pc' ls (.inr (.inl (a.tdiv b)) :: st) σ K) : RnG d j pc ls (.inr (.inl b) :: .inr (.inl a) :: st) σ K := by
  intro p l e s m args below meth c D dA ρ A H locs la C hl hP hD hS
  have G := hk p l e s m args below meth c D dA ρ A H locs la C hl hP hD hS
  simp only [nxt] at hn
  split at hn
  · rename_i h; cases hn
    simp only [List.map_cons, cv] at G ⊢
    rw [← i64_div ha hb] at G
    exact lv_ldiv C.1 C.2.1 (dOk_spec h) (fun x => hz (by have h2 := congrArg Int64.toInt x; rw [i64 hb] at h2; exact h2)) G
  · cases hn

theorem R_lrem {a b : Int} (hn : nxt (mC j) (mB j) pc .lrem = some pc') (ha : in64 a) (hb : in64 b) (hz : ¬ b = 0) (hk : RnG d j pc' ls (.inr (.inl (a.tmod b)) :: st) σ K) : RnG d j pc ls (.inr (.inl b) :: .inr (.inl a) :: st) σ K := by
  intro p l e s m args below meth c D dA ρ A H locs la C hl hP hD hS
  have G := hk p l e s m args below meth c D dA ρ A H locs la C hl hP hD hS
  simp only [nxt] at hn
  split at hn
  · rename_i h; cases hn
    simp only [List.map_cons, cv] at G ⊢
    rw [← i64_rm ha hb] at G
    exact lv_lrem C.1 C.2.1 (dOk_spec h) (fun x => hz (by have h2 := congrArg Int64.toInt x; rw [i64 hb] at h2; exact h2)) G
  · cases hn

theorem R_iand {a b : Int} (hn : nxt (mC j) (mB j) pc .iand = some pc') (hk : RnG d j pc' ls (.inl (iand a b) :: st) σ K) : RnG d j pc ls (.inl b :: .inl a :: st) σ K := by
  intro p l e s m args below meth c D dA ρ A H locs la C hl hP hD hS
  have G := hk p l e s m args below meth c D dA ρ A H locs la C hl hP hD hS
  simp only [nxt] at hn
  split at hn
  · rename_i h; cases hn
    simp only [List.map_cons, cv, iand, Int32.ofInt_toInt] at G ⊢
    exact lv_iand C.1 C.2.1 (dOk_spec h) G
  · cases hn

theorem R_ior {a b : Int} (hn : nxt (mC j) (mB j) pc .ior = some pc') (hk : RnG d j pc' ls (.inl (ior a b) :: st) σ K) : RnG d j pc ls (.inl b :: .inl a :: st) σ K := by
  intro p l e s m args below meth c D dA ρ A H locs la C hl hP hD hS
  have G := hk p l e s m args below meth c D dA ρ A H locs la C hl hP hD hS
  simp only [nxt] at hn
  split at hn
  · rename_i h; cases hn
    simp only [List.map_cons, cv, ior, Int32.ofInt_toInt] at G ⊢
    exact lv_ior C.1 C.2.1 (dOk_spec h) G
  · cases hn

theorem R_ixor {a b : Int} (hn : nxt (mC j) (mB j) pc .ixor = some pc') (hk : RnG d j pc' ls (.inl (ixor a b) :: st) σ K) : RnG d j pc ls (.inl b :: .inl a :: st) σ K := by
  intro p l e s m args below meth c D dA ρ A H locs la C hl hP hD hS
  have G := hk p l e s m args below meth c D dA ρ A H locs la C hl hP hD hS
  simp only [nxt] at hn
  split at hn
  · rename_i h; cases hn
    simp only [List.map_cons, cv, ixor, Int32.ofInt_toInt] at G ⊢
    exact lv_ixor C.1 C.2.1 (dOk_spec h) G
  · cases hn

theorem R_ishl {a b : Int} (hn : nxt (mC j) (mB j) pc .ishl = some pc') (hk : RnG d j pc' ls (.inl (ishl a b) :: st) σ K) : RnG d j pc ls (.inl b :: .inl a :: st) σ K := by
  intro p l e s m args below meth c D dA ρ A H locs la C hl hP hD hS
  have G := hk p l e s m args below meth c D dA ρ A H locs la C hl hP hD hS
  simp only [nxt] at hn
  split at hn
  · rename_i h; cases hn
    simp only [List.map_cons, cv, ishl, Int32.ofInt_toInt] at G ⊢
    exact lv_ishl C.1 C.2.1 (dOk_spec h) G
  · cases hn

theorem R_ishr {a b : Int} (hn : nxt (mC j) (mB j) pc .ishr = some pc') (hk : RnG d j pc' ls (.inl (ishr a b) :: st) σ K) : RnG d j pc ls (.inl b :: .inl a :: st) σ K := by
  intro p l e s m args below meth c D dA ρ A H locs la C hl hP hD hS
  have G := hk p l e s m args below meth c D dA ρ A H locs la C hl hP hD hS
  simp only [nxt] at hn
  split at hn
  · rename_i h; cases hn
    simp only [List.map_cons, cv, ishr, Int32.ofInt_toInt] at G ⊢
    exact lv_ishr C.1 C.2.1 (dOk_spec h) G
  · cases hn

theorem R_iushr {a b : Int} (hn : nxt (mC j) (mB j) pc .iushr = some pc') (hk : RnG d j pc' ls (.inl (iushr a b) :: st) σ K) : RnG d j pc ls (.inl b :: .inl a :: st) σ K := by
  intro p l e s m args below meth c D dA ρ A H locs la C hl hP hD hS
  have G := hk p l e s m args below meth c D dA ρ A H locs la C hl hP hD hS
  simp only [nxt] at hn
  split at hn
  · rename_i h; cases hn
    simp only [List.map_cons, cv, iushr, Int32.ofInt_toInt] at G ⊢
    exact lv_iushr C.1 C.2.1 (dOk_spec h) rfl G
  · cases hn

theorem R_land {a b : Int} (hn : nxt (mC j) (mB j) pc .land = some pc') (hk : RnG d j pc' ls (.inr (.inl (jand a b)) :: st) σ K) : RnG d j pc ls (.inr (.inl b) :: .inr (.inl a) :: st) σ K := by
  intro p l e s m args below meth c D dA ρ A H locs la C hl hP hD hS
  have G := hk p l e s m args below meth c D dA ρ A H locs la C hl hP hD hS
  simp only [nxt] at hn
  split at hn
  · rename_i h; cases hn
    simp only [List.map_cons, cv, jand, Int64.ofInt_toInt] at G ⊢
    exact lv_land C.1 C.2.1 (dOk_spec h) G
  · cases hn

theorem R_lor {a b : Int} (hn : nxt (mC j) (mB j) pc .lor = some pc') (hk : RnG d j pc' ls (.inr (.inl (jor a b)) :: st) σ K) : RnG d j pc ls (.inr (.inl b) :: .inr (.inl a) :: st) σ K := by
  intro p l e s m args below meth c D dA ρ A H locs la C hl hP hD hS
  have G := hk p l e s m args below meth c D dA ρ A H locs la C hl hP hD hS
  simp only [nxt] at hn
  split at hn
  · rename_i h; cases hn
    simp only [List.map_cons, cv, jor, Int64.ofInt_toInt] at G ⊢
    exact lv_lor C.1 C.2.1 (dOk_spec h) G
  · cases hn

theorem R_lshl {a b : Int} (hn : nxt (mC j) (mB j) pc .lshl = some pc') (hk : RnG d j pc' ls (.inr (.inl (jshl a b)) :: st) σ K) : RnG d j pc ls (.inl b :: .inr (.inl a) :: st) σ K := by
  intro p l e s m args below meth c D dA ρ A H locs la C hl hP hD hS
  have G := hk p l e s m args below meth c D dA ρ A H locs la C hl hP hD hS
  simp only [nxt] at hn
  split at hn
  · rename_i h; cases hn
    simp only [List.map_cons, cv, jshl, Int64.ofInt_toInt] at G ⊢
    exact lv_lshl C.1 C.2.1 (dOk_spec h) rfl G
  · cases hn

theorem R_lshr {a b : Int} (hn : nxt (mC j) (mB j) pc .lshr = some pc') (hk : RnG d j pc' ls (.inr (.inl (jshr a b)) :: st) σ K) : RnG d j pc ls (.inl b :: .inr (.inl a) :: st) σ K := by
  intro p l e s m args below meth c D dA ρ A H locs la C hl hP hD hS
  have G := hk p l e s m args below meth c D dA ρ A H locs la C hl hP hD hS
  simp only [nxt] at hn
  split at hn
  · rename_i h; cases hn
    simp only [List.map_cons, cv, jshr, Int64.ofInt_toInt] at G ⊢
    exact lv_lshr C.1 C.2.1 (dOk_spec h) rfl G
  · cases hn

theorem R_i2l {a : Int} (hn : nxt (mC j) (mB j) pc .i2l = some pc') (ha : in32 a) (hk : RnG d j pc' ls (.inr (.inl a) :: st) σ K) : RnG d j pc ls (.inl a :: st) σ K := by
  intro p l e s m args below meth c D dA ρ A H locs la C hl hP hD hS
  have G := hk p l e s m args below meth c D dA ρ A H locs la C hl hP hD hS
  simp only [nxt] at hn
  split at hn
  · rename_i h; cases hn
    exact lv_i2l C.1 C.2.1 (dOk_spec h) (by rw [← Int64.toInt_inj, Int32.toInt_toInt64, i32 ha, i64 ⟨by have := ha.1; omega, by have := ha.2; omega⟩]) G
  · cases hn

theorem R_l2i {a : Int} (hn : nxt (mC j) (mB j) pc .l2i = some pc') (hk : RnG d j pc' ls (.inl a :: st) σ K) : RnG d j pc ls (.inr (.inl a) :: st) σ K := by
  intro p l e s m args below meth c D dA ρ A H locs la C hl hP hD hS
  have G := hk p l e s m args below meth c D dA ρ A H locs la C hl hP hD hS
  simp only [nxt] at hn
  split at hn
  · rename_i h; cases hn
    exact lv_l2i C.1 C.2.1 (dOk_spec h) Int64.toInt32_ofInt G
  · cases hn

theorem R_i2b {a : Int} (hn : nxt (mC j) (mB j) pc .i2b = some pc') (hk : RnG d j pc' ls (.inl (i2b a) :: st) σ K) : RnG d j pc ls (.inl a :: st) σ K := by
  intro p l e s m args below meth c D dA ρ A H locs la C hl hP hD hS
  have G := hk p l e s m args below meth c D dA ρ A H locs la C hl hP hD hS
  simp only [nxt] at hn
  split at hn
  · rename_i h; cases hn
    exact lv_i2b C.1 C.2.1 (dOk_spec h) (i2b_of a) G
  · cases hn

theorem R_i2s {a : Int} (hn : nxt (mC j) (mB j) pc .i2s = some pc') (hk : RnG d j pc' ls (.inl (i2s a) :: st) σ K) : RnG d j pc ls (.inl a :: st) σ K := by
  intro p l e s m args below meth c D dA ρ A H locs la C hl hP hD hS
  have G := hk p l e s m args below meth c D dA ρ A H locs la C hl hP hD hS
  simp only [nxt] at hn
  split at hn
  · rename_i h; cases hn
    exact lv_i2s C.1 C.2.1 (dOk_spec h) (i2s_of a) G
  · cases hn

theorem R_i2c {a : Int} (hn : nxt (mC j) (mB j) pc .i2c = some pc') (hk : RnG d j pc' ls (.inl (i2c a) :: st) σ K) : RnG d j pc ls (.inl a :: st) σ K := by
  intro p l e s m args below meth c D dA ρ A H locs la C hl hP hD hS
  have G := hk p l e s m args below meth c D dA ρ A H locs la C hl hP hD hS
  simp only [nxt] at hn
  split at hn
  · rename_i h; cases hn
    simp only [List.map_cons, cv, i2c, Int32.ofInt_toInt] at G ⊢
    exact lv_i2c C.1 C.2.1 (dOk_spec h) rfl G
  · cases hn

theorem R_lcmp {a b : Int} (hn : nxt (mC j) (mB j) pc .lcmp = some pc') (ha : in64 a) (hb : in64 b) (hk : RnG d j pc' ls (.inl (lcm2 a b) :: st) σ K) : RnG d j pc ls (.inr (.inl b) :: .inr (.inl a) :: st) σ K := by
  intro p l e s m args below meth c D dA ρ A H locs la C hl hP hD hS
  have G := hk p l e s m args below meth c D dA ρ A H locs la C hl hP hD hS
  simp only [nxt] at hn
  split at hn
  · rename_i h; cases hn
    simp only [List.map_cons, cv] at G ⊢
    rw [← lg_cmp_of ha hb] at G
    exact W.lcmp C.1 C.2.1 (dOk_spec h) G
  · cases hn

theorem R_dup {v : AV} (hn : nxt (mC j) (mB j) pc .dup = some pc') (hv : isL v = false) (hk : RnG d j pc' ls (v :: v :: st) σ K) : RnG d j pc ls (v :: st) σ K := by
  intro p l e s m args below meth c D dA ρ A H locs la C hl hP hD hS
  have G := hk p l e s m args below meth c D dA ρ A H locs la C hl hP hD hS
  simp only [nxt] at hn
  split at hn
  · rename_i h; cases hn
    exact lv_dup C.1 C.2.1 (dOk_spec h) (by rw [isL_cat, hv]; rfl) G
  · cases hn

theorem R_pop {v : AV} (hn : nxt (mC j) (mB j) pc .pop = some pc') (hv : isL v = false) (hk : RnG d j pc' ls (st) σ K) : RnG d j pc ls (v :: st) σ K := by
  intro p l e s m args below meth c D dA ρ A H locs la C hl hP hD hS
  have G := hk p l e s m args below meth c D dA ρ A H locs la C hl hP hD hS
  simp only [nxt] at hn
  split at hn
  · rename_i h; cases hn
    exact lv_pop C.1 C.2.1 (dOk_spec h) (by rw [isL_cat, hv]; rfl) G
  · cases hn

theorem R_dup2 {v w : AV} (hn : nxt (mC j) (mB j) pc .dup2 = some pc') (hv : isL v = false) (hw : isL w = false) (hk : RnG d j pc' ls (v :: w :: v :: w :: st) σ K) : RnG d j pc ls (v :: w :: st) σ K := by
  intro p l e s m args below meth c D dA ρ A H locs la C hl hP hD hS
  have G := hk p l e s m args below meth c D dA ρ A H locs la C hl hP hD hS
  simp only [nxt] at hn
  split at hn
  · rename_i h; cases hn
    exact lv_dup2_11 C.1 C.2.1 (dOk_spec h) (by rw [isL_cat, hv]; rfl) (by rw [isL_cat, hw]; rfl) G
  · cases hn

theorem R_dup2L {v : AV} (hn : nxt (mC j) (mB j) pc .dup2 = some pc') (hv : isL v = true) (hk : RnG d j pc' ls (v :: v :: st) σ K) : RnG d j pc ls (v :: st) σ K := by
  intro p l e s m args below meth c D dA ρ A H locs la C hl hP hD hS
  have G := hk p l e s m args below meth c D dA ρ A H locs la C hl hP hD hS
  simp only [nxt] at hn
  split at hn
  · rename_i h; cases hn
    exact lv_dup2_2 C.1 C.2.1 (dOk_spec h) (by rw [isL_cat, hv]; rfl) G
  · cases hn

theorem R_pop2L {v : AV} (hn : nxt (mC j) (mB j) pc .pop2 = some pc') (hv : isL v = true) (hk : RnG d j pc' ls (st) σ K) : RnG d j pc ls (v :: st) σ K := by
  intro p l e s m args below meth c D dA ρ A H locs la C hl hP hD hS
  have G := hk p l e s m args below meth c D dA ρ A H locs la C hl hP hD hS
  simp only [nxt] at hn
  split at hn
  · rename_i h; cases hn
    exact lv_pop2_2 C.1 C.2.1 (dOk_spec h) (by rw [isL_cat, hv]; rfl) G
  · cases hn

theorem R_iald {Ka i : Nat} {z : Int} (hn : nxt (mC j) (mB j) pc .iaload = some pc') (hK : isK Ka = true) (hK2 : ¬ Ka < 13) (hi : i < cnt σ Ka) (ht : aet Ka = 0) (hb : inb σ Ka i z) (hk : RnG d j pc' ls (.inl (σ Ka i z.toNat) :: st) σ K) : RnG d j pc ls (.inl z :: .inr (.inr (some (Ka, i))) :: st) σ K := by
  intro p l e s m args below meth c D dA ρ A H locs la C hl hP hD hS
  have G := hk p l e s m args below meth c D dA ρ A H locs la C hl hP hD hS
  obtain ⟨q0, hq1, hq2⟩ := wld_at (dA := dA) (ρ := ρ) hK hi
  have hcel : cel dA ρ σ Ka i = .inl (dA 0, alen σ Ka i, .inl (fun j => Int32.ofInt (σ Ka i j))) := by
    simp only [cel, arc, if_neg hK2, ht]
    first | rfl | simp
  rw [hcel] at hq2
  obtain ⟨hin, hcl⟩ := inb_spec hb
  simp only [nxt] at hn
  split at hn
  · rename_i h; cases hn
    refine va_iald C.1 C.2.1 C.2.2.2.2.2.2.2.1 hP q0 0 hq2 rfl hin (dOk_spec h) ?_
    rw [hcl]
    exact G
  · cases hn

theorem R_bald {Ka i : Nat} {z : Int} (hn : nxt (mC j) (mB j) pc .baload = some pc') (hK : isK Ka = true) (hK2 : ¬ Ka < 13) (hi : i < cnt σ Ka) (ht : aet Ka = 1) (hb : inb σ Ka i z) (hk : RnG d j pc' ls (.inl (σ Ka i z.toNat) :: st) σ K) : RnG d j pc ls (.inl z :: .inr (.inr (some (Ka, i))) :: st) σ K := by
  intro p l e s m args below meth c D dA ρ A H locs la C hl hP hD hS
  have G := hk p l e s m args below meth c D dA ρ A H locs la C hl hP hD hS
  obtain ⟨q0, hq1, hq2⟩ := wld_at (dA := dA) (ρ := ρ) hK hi
  have hcel : cel dA ρ σ Ka i = .inl (dA 1, alen σ Ka i, .inl (fun j => Int32.ofInt (σ Ka i j))) := by
    simp only [cel, arc, if_neg hK2, ht]
    first | rfl | simp
  rw [hcel] at hq2
  obtain ⟨hin, hcl⟩ := inb_spec hb
  simp only [nxt] at hn
  split at hn
  · rename_i h; cases hn
    refine va_bald C.1 C.2.1 C.2.2.2.2.2.2.2.1 hP q0 1 hq2 rfl hin (dOk_spec h) ?_
    rw [hcl]
    exact G
  · cases hn

theorem R_zald {Ka i : Nat} {z : Int} (hn : nxt (mC j) (mB j) pc .baload = some pc') (hK : isK Ka = true) (hK2 : ¬ Ka < 13) (hi : i < cnt σ Ka) (ht : aet Ka = 2) (hb : inb σ Ka i z) (hk : RnG d j pc' ls (.inl (σ Ka i z.toNat) :: st) σ K) : RnG d j pc ls (.inl z :: .inr (.inr (some (Ka, i))) :: st) σ K := by
  intro p l e s m args below meth c D dA ρ A H locs la C hl hP hD hS
  have G := hk p l e s m args below meth c D dA ρ A H locs la C hl hP hD hS
  obtain ⟨q0, hq1, hq2⟩ := wld_at (dA := dA) (ρ := ρ) hK hi
  have hcel : cel dA ρ σ Ka i = .inl (dA 2, alen σ Ka i, .inl (fun j => Int32.ofInt (σ Ka i j))) := by
    simp only [cel, arc, if_neg hK2, ht]
    first | rfl | simp
  rw [hcel] at hq2
  obtain ⟨hin, hcl⟩ := inb_spec hb
  simp only [nxt] at hn
  split at hn
  · rename_i h; cases hn
    refine va_zald C.1 C.2.1 C.2.2.2.2.2.2.2.1 hP q0 2 hq2 rfl hin (dOk_spec h) ?_
    rw [hcl]
    exact G
  · cases hn

theorem R_lald {Ka i : Nat} {z : Int} (hn : nxt (mC j) (mB j) pc .laload = some pc') (hK : isK Ka = true) (hK2 : ¬ Ka < 13) (hi : i < cnt σ Ka) (ht : aet Ka = 3) (hb : inb σ Ka i z) (hk : RnG d j pc' ls (.inr (.inl (σ Ka i z.toNat)) :: st) σ K) : RnG d j pc ls (.inl z :: .inr (.inr (some (Ka, i))) :: st) σ K := by
  intro p l e s m args below meth c D dA ρ A H locs la C hl hP hD hS
  have G := hk p l e s m args below meth c D dA ρ A H locs la C hl hP hD hS
  obtain ⟨q0, hq1, hq2⟩ := wld_at (dA := dA) (ρ := ρ) hK hi
  have hcel : cel dA ρ σ Ka i = .inl (dA 3, alen σ Ka i, .inr (.inl (fun j => Int64.ofInt (σ Ka i j)))) := by
    simp only [cel, arc, if_neg hK2, ht]
    first | rfl | simp
  rw [hcel] at hq2
  obtain ⟨hin, hcl⟩ := inb_spec hb
  simp only [nxt] at hn
  split at hn
  · rename_i h; cases hn
    refine va_lald C.1 C.2.1 C.2.2.2.2.2.2.2.1 hP q0 3 hq2 rfl hin (dOk_spec h) ?_
    rw [hcl]
    exact G
  · cases hn

theorem R_aald4 {Ka i : Nat} {z : Int} (hn : nxt (mC j) (mB j) pc .aaload = some pc') (hK : isK Ka = true) (hK2 : ¬ Ka < 13) (hi : i < cnt σ Ka) (ht : aet Ka = 4) (hb : inb σ Ka i z) (hk : RnG d j pc' ls (.inr (.inr (some ((arf Ka).1, (arf Ka).2 + z.toNat))) :: st) σ K) : RnG d j pc ls (.inl z :: .inr (.inr (some (Ka, i))) :: st) σ K := by
  intro p l e s m args below meth c D dA ρ A H locs la C hl hP hD hS
  have G := hk p l e s m args below meth c D dA ρ A H locs la C hl hP hD hS
  obtain ⟨q0, hq1, hq2⟩ := wld_at (dA := dA) (ρ := ρ) hK hi
  have hcel : cel dA ρ σ Ka i = .inl (dA 4, alen σ Ka i, .inr (.inr (.inr (.inr (fun j => some (ρ (arf Ka).1 ((arf Ka).2 + j))))))) := by
    simp only [cel, arc, if_neg hK2, ht]
    first | rfl | simp
  rw [hcel] at hq2
  obtain ⟨hin, hcl⟩ := inb_spec hb
  simp only [nxt] at hn
  split at hn
  · rename_i h; cases hn
    refine va_aldq C.1 C.2.1 C.2.2.2.2.2.2.2.1 hP q0 4 hq2 rfl hin (dOk_spec h) ?_
    rw [hcl]
    exact G
  · cases hn

theorem R_aald5 {Ka i : Nat} {z : Int} (hn : nxt (mC j) (mB j) pc .aaload = some pc') (hK : isK Ka = true) (hK2 : ¬ Ka < 13) (hi : i < cnt σ Ka) (ht : aet Ka = 5) (hb : inb σ Ka i z) (hk : RnG d j pc' ls (.inr (.inr (some ((arf Ka).1, (arf Ka).2 + z.toNat))) :: st) σ K) : RnG d j pc ls (.inl z :: .inr (.inr (some (Ka, i))) :: st) σ K := by
  intro p l e s m args below meth c D dA ρ A H locs la C hl hP hD hS
  have G := hk p l e s m args below meth c D dA ρ A H locs la C hl hP hD hS
  obtain ⟨q0, hq1, hq2⟩ := wld_at (dA := dA) (ρ := ρ) hK hi
  have hcel : cel dA ρ σ Ka i = .inl (dA 5, alen σ Ka i, .inr (.inr (.inr (.inr (fun j => some (ρ (arf Ka).1 ((arf Ka).2 + j))))))) := by
    simp only [cel, arc, if_neg hK2, ht]
    first | rfl | simp
  rw [hcel] at hq2
  obtain ⟨hin, hcl⟩ := inb_spec hb
  simp only [nxt] at hn
  split at hn
  · rename_i h; cases hn
    refine va_aldq C.1 C.2.1 C.2.2.2.2.2.2.2.1 hP q0 5 hq2 rfl hin (dOk_spec h) ?_
    rw [hcl]
    exact G
  · cases hn

theorem R_aald6 {Ka i : Nat} {z : Int} (hn : nxt (mC j) (mB j) pc .aaload = some pc') (hK : isK Ka = true) (hK2 : ¬ Ka < 13) (hi : i < cnt σ Ka) (ht : aet Ka = 6) (hb : inb σ Ka i z) (hk : RnG d j pc' ls (.inr (.inr (some ((arf Ka).1, (arf Ka).2 + z.toNat))) :: st) σ K) : RnG d j pc ls (.inl z :: .inr (.inr (some (Ka, i))) :: st) σ K := by
  intro p l e s m args below meth c D dA ρ A H locs la C hl hP hD hS
  have G := hk p l e s m args below meth c D dA ρ A H locs la C hl hP hD hS
  obtain ⟨q0, hq1, hq2⟩ := wld_at (dA := dA) (ρ := ρ) hK hi
  have hcel : cel dA ρ σ Ka i = .inl (dA 6, alen σ Ka i, .inr (.inr (.inr (.inr (fun j => some (ρ (arf Ka).1 ((arf Ka).2 + j))))))) := by
    simp only [cel, arc, if_neg hK2, ht]
    first | rfl | simp
  rw [hcel] at hq2
  obtain ⟨hin, hcl⟩ := inb_spec hb
  simp only [nxt] at hn
  split at hn
  · rename_i h; cases hn
    refine va_aldq C.1 C.2.1 C.2.2.2.2.2.2.2.1 hP q0 6 hq2 rfl hin (dOk_spec h) ?_
    rw [hcl]
    exact G
  · cases hn

theorem R_alen {Ka i : Nat} (hn : nxt (mC j) (mB j) pc .arraylength = some pc') (hK : isK Ka = true) (hK2 : ¬ Ka < 13) (hi : i < cnt σ Ka) (ht : aet Ka < 7) (hk : RnG d j pc' ls (.inl (alen σ Ka i : Int) :: st) σ K) : RnG d j pc ls (.inr (.inr (some (Ka, i))) :: st) σ K := by
  intro p l e s m args below meth c D dA ρ A H locs la C hl hP hD hS
  have G := hk p l e s m args below meth c D dA ρ A H locs la C hl hP hD hS
  obtain ⟨q0, hq1, hq2⟩ := wld_at (dA := dA) (ρ := ρ) hK hi
  have hcel : cel dA ρ σ Ka i = .inl (dA (aet Ka), alen σ Ka i, arc ρ σ Ka i) := by simp only [cel, if_neg hK2]
  rw [hcel] at hq2
  have hty : ∃ ty, (tys dA)[aet Ka]? = some (dA (aet Ka), ty) := by
    generalize aet Ka = n at ht ⊢
    rcases n with _ | _ | _ | _ | _ | _ | _ | n
    all_goals first | exact ⟨_, rfl⟩ | omega
  obtain ⟨ty, hty⟩ := hty
  simp only [nxt] at hn
  split at hn
  · rename_i h; cases hn
    exact va_alen C.1 C.2.1 C.2.2.2.2.2.2.2.1 hP q0 (aet Ka) hq2 hty (by rw [← Int32.ofInt_eq_ofNat]) (dOk_spec h) G
  · cases hn

theorem R_iast {Ka i : Nat} {z v : Int} (hn : nxt (mC j) (mB j) pc .iastore = some pc') (hK : isK Ka = true) (hK2 : ¬ Ka < 13) (hi : i < cnt σ Ka) (ht : aet Ka = 0) (hb : inb σ Ka i z) (hk : RnG d j pc' ls st (mu σ Ka i z.toNat v) K) : RnG d j pc ls (.inl v :: .inl z :: .inr (.inr (some (Ka, i))) :: st) σ K := by
  intro p l e s m args below meth c D dA ρ A H locs la C hl hP hD hS
  obtain ⟨q0, hq1, hq2⟩ := wld_at (dA := dA) (ρ := ρ) hK hi
  have hcel : cel dA ρ σ Ka i = .inl (dA 0, alen σ Ka i, .inl (fun j => Int32.ofInt (σ Ka i j))) := by
    simp only [cel, arc, if_neg hK2, ht]
    first | rfl | simp
  rw [hcel] at hq2
  obtain ⟨hin, hcl⟩ := inb_spec hb
  have hlt : Ka < 59 := dom_lt (dom_mem hK hi)
  have hcel2 : cel dA ρ (mu σ Ka i z.toNat v) Ka i = .inl (dA 0, alen σ Ka i, .inl (upd (fun j => Int32.ofInt (σ Ka i j)) z.toNat (Int32.ofInt v))) := by
    simp only [cel, arc, if_neg hK2, ht, alen_mu hlt]
    have e : ∀ n, mu σ Ka i z.toNat v Ka i n = if n = z.toNat then v else σ Ka i n := fun n => by simp [mu]
    first | rfl | (simp [e])
    try (funext n; simp only [upd]; split <;> rfl)
  simp only [nxt] at hn
  split at hn
  · rename_i h; cases hn
    refine va_iast C.1 C.2.1 C.2.2.2.2.2.2.2.1 hP hD hS q0 0 hq2 rfl hin (dOk_spec h) (fun H1 locs1 hP1 hD1 hS1 => ?_)
    rw [hcl, ← hcel2, wld_set hlt hq1 hD] at hP1 hD1
    exact hk p l e s m args below meth c D dA ρ A H1 locs1 la C hl hP1 hD1 hS1
  · cases hn

theorem R_bast {Ka i : Nat} {z v : Int} (hn : nxt (mC j) (mB j) pc .bastore = some pc') (hK : isK Ka = true) (hK2 : ¬ Ka < 13) (hi : i < cnt σ Ka) (ht : aet Ka = 1) (hb : inb σ Ka i z) (hv : -128 ≤ v ∧ v ≤ 127) (hk : RnG d j pc' ls st (mu σ Ka i z.toNat v) K) : RnG d j pc ls (.inl v :: .inl z :: .inr (.inr (some (Ka, i))) :: st) σ K := by
  intro p l e s m args below meth c D dA ρ A H locs la C hl hP hD hS
  obtain ⟨q0, hq1, hq2⟩ := wld_at (dA := dA) (ρ := ρ) hK hi
  have hcel : cel dA ρ σ Ka i = .inl (dA 1, alen σ Ka i, .inl (fun j => Int32.ofInt (σ Ka i j))) := by
    simp only [cel, arc, if_neg hK2, ht]
    first | rfl | simp
  rw [hcel] at hq2
  obtain ⟨hin, hcl⟩ := inb_spec hb
  have hlt : Ka < 59 := dom_lt (dom_mem hK hi)
  have hcel2 : cel dA ρ (mu σ Ka i z.toNat v) Ka i = .inl (dA 1, alen σ Ka i, .inl (upd (fun j => Int32.ofInt (σ Ka i j)) z.toNat (Int32.ofInt v))) := by
    simp only [cel, arc, if_neg hK2, ht, alen_mu hlt]
    have e : ∀ n, mu σ Ka i z.toNat v Ka i n = if n = z.toNat then v else σ Ka i n := fun n => by simp [mu]
    first | rfl | (simp [e])
    try (funext n; simp only [upd]; split <;> rfl)
  simp only [nxt] at hn
  split at hn
  · rename_i h; cases hn
    refine va_bast C.1 C.2.1 C.2.2.2.2.2.2.2.1 hP hD hS q0 1 hq2 rfl hin (dOk_spec h) (fun H1 locs1 hP1 hD1 hS1 => ?_)
    rw [hcl, nar_b hv, ← hcel2, wld_set hlt hq1 hD] at hP1 hD1
    exact hk p l e s m args below meth c D dA ρ A H1 locs1 la C hl hP1 hD1 hS1
  · cases hn

theorem R_zast {Ka i : Nat} {z v : Int} (hn : nxt (mC j) (mB j) pc .bastore = some pc') (hK : isK Ka = true) (hK2 : ¬ Ka < 13) (hi : i < cnt σ Ka) (ht : aet Ka = 2) (hb : inb σ Ka i z) (hv : v = 0 ∨ v = 1) (hk : RnG d j pc' ls st (mu σ Ka i z.toNat v) K) : RnG d j pc ls (.inl v :: .inl z :: .inr (.inr (some (Ka, i))) :: st) σ K := by
  intro p l e s m args below meth c D dA ρ A H locs la C hl hP hD hS
  obtain ⟨q0, hq1, hq2⟩ := wld_at (dA := dA) (ρ := ρ) hK hi
  have hcel : cel dA ρ σ Ka i = .inl (dA 2, alen σ Ka i, .inl (fun j => Int32.ofInt (σ Ka i j))) := by
    simp only [cel, arc, if_neg hK2, ht]
    first | rfl | simp
  rw [hcel] at hq2
  obtain ⟨hin, hcl⟩ := inb_spec hb
  have hlt : Ka < 59 := dom_lt (dom_mem hK hi)
  have hcel2 : cel dA ρ (mu σ Ka i z.toNat v) Ka i = .inl (dA 2, alen σ Ka i, .inl (upd (fun j => Int32.ofInt (σ Ka i j)) z.toNat (Int32.ofInt v))) := by
    simp only [cel, arc, if_neg hK2, ht, alen_mu hlt]
    have e : ∀ n, mu σ Ka i z.toNat v Ka i n = if n = z.toNat then v else σ Ka i n := fun n => by simp [mu]
    first | rfl | (simp [e])
    try (funext n; simp only [upd]; split <;> rfl)
  simp only [nxt] at hn
  split at hn
  · rename_i h; cases hn
    refine va_zast C.1 C.2.1 C.2.2.2.2.2.2.2.1 hP hD hS q0 2 hq2 rfl hin (dOk_spec h) (fun H1 locs1 hP1 hD1 hS1 => ?_)
    rw [hcl, nar_z hv, ← hcel2, wld_set hlt hq1 hD] at hP1 hD1
    exact hk p l e s m args below meth c D dA ρ A H1 locs1 la C hl hP1 hD1 hS1
  · cases hn

theorem R_last {Ka i : Nat} {z v : Int} (hn : nxt (mC j) (mB j) pc .lastore = some pc') (hK : isK Ka = true) (hK2 : ¬ Ka < 13) (hi : i < cnt σ Ka) (ht : aet Ka = 3) (hb : inb σ Ka i z) (hk : RnG d j pc' ls st (mu σ Ka i z.toNat v) K) : RnG d j pc ls (.inr (.inl v) :: .inl z :: .inr (.inr (some (Ka, i))) :: st) σ K := by
  intro p l e s m args below meth c D dA ρ A H locs la C hl hP hD hS
  obtain ⟨q0, hq1, hq2⟩ := wld_at (dA := dA) (ρ := ρ) hK hi
  have hcel : cel dA ρ σ Ka i = .inl (dA 3, alen σ Ka i, .inr (.inl (fun j => Int64.ofInt (σ Ka i j)))) := by
    simp only [cel, arc, if_neg hK2, ht]
    first | rfl | simp
  rw [hcel] at hq2
  obtain ⟨hin, hcl⟩ := inb_spec hb
  have hlt : Ka < 59 := dom_lt (dom_mem hK hi)
  have hcel2 : cel dA ρ (mu σ Ka i z.toNat v) Ka i = .inl (dA 3, alen σ Ka i, .inr (.inl (vp_updL (fun j => Int64.ofInt (σ Ka i j)) z.toNat (Int64.ofInt v)))) := by
    simp only [cel, arc, if_neg hK2, ht, alen_mu hlt]
    have e : ∀ n, mu σ Ka i z.toNat v Ka i n = if n = z.toNat then v else σ Ka i n := fun n => by simp [mu]
    first | rfl | (simp [e])
    try (funext n; simp only [vp_updL]; split <;> rfl)
  simp only [nxt] at hn
  split at hn
  · rename_i h; cases hn
    refine va_last C.1 C.2.1 C.2.2.2.2.2.2.2.1 hP hD hS q0 3 hq2 rfl hin (dOk_spec h) (fun H1 locs1 hP1 hD1 hS1 => ?_)
    rw [hcl, ← hcel2, wld_set hlt hq1 hD] at hP1 hD1
    exact hk p l e s m args below meth c D dA ρ A H1 locs1 la C hl hP1 hD1 hS1
  · cases hn

end RULES2
section RULES2B
variable {d j pc pc' : Nat} {ls st : List AV} {σ : Mem} {K : Option AV → Mem → Prop}
theorem R_ireturn {a : Int} (hn : nxt (mC j) (mB j) pc .ireturn = some pc') (hr : mR j = some .int) (hk : K (some (.inl a)) σ) : Rn d j pc ls (.inl a :: []) σ K := by
  intro p l e s m args below meth c D dA ρ A H locs la C hl hP hD hS
  have hq : ∀ t : State, t.heap = H → s.WarmedH t.vm → QK D dA ρ A K args s (.returned (((some (.inl a)) : Option AV).map (cv ρ))) t := fun t ht hW => ⟨⟨(some (.inl a)), σ, rfl, hk, by rw [ht]; exact hP, va_K.moved hW.alike C.2.2.2.2.2.2.2.1, hD⟩, hS.F ht⟩
  simp only [nxt] at hn
  split at hn
  · rename_i h; cases hn
    exact W.iret C.1 C.2.1 (C.2.2.1.trans hr) hq hS.2.2 (dOk_spec h) C.2.2.2.2.2.2.1
  · cases hn

theorem R_zreturn {a : Int} (hn : nxt (mC j) (mB j) pc .ireturn = some pc') (hr : mR j = some .boolean) (hz : a = 0 ∨ a = 1) (hk : K (some (.inl a)) σ) : Rn d j pc ls (.inl a :: []) σ K := by
  intro p l e s m args below meth c D dA ρ A H locs la C hl hP hD hS
  have hq : ∀ t : State, t.heap = H → s.WarmedH t.vm → QK D dA ρ A K args s (.returned (((some (.inl a)) : Option AV).map (cv ρ))) t := fun t ht hW => ⟨⟨(some (.inl a)), σ, rfl, hk, by rw [ht]; exact hP, va_K.moved hW.alike C.2.2.2.2.2.2.2.1, hD⟩, hS.F ht⟩
  simp only [nxt] at hn
  split at hn
  · rename_i h; cases hn
    exact W.zret C.1 C.2.1 (C.2.2.1.trans hr) (nar_zv hz) hq hS.2.2 (dOk_spec h) C.2.2.2.2.2.2.1
  · cases hn

theorem R_lreturn {a : Int} (hn : nxt (mC j) (mB j) pc .lreturn = some pc') (hr : mR j = some .long) (hk : K (some (.inr (.inl a))) σ) : Rn d j pc ls (.inr (.inl a) :: []) σ K := by
  intro p l e s m args below meth c D dA ρ A H locs la C hl hP hD hS
  have hq : ∀ t : State, t.heap = H → s.WarmedH t.vm → QK D dA ρ A K args s (.returned (((some (.inr (.inl a))) : Option AV).map (cv ρ))) t := fun t ht hW => ⟨⟨(some (.inr (.inl a))), σ, rfl, hk, by rw [ht]; exact hP, va_K.moved hW.alike C.2.2.2.2.2.2.2.1, hD⟩, hS.F ht⟩
  simp only [nxt] at hn
  split at hn
  · rename_i h; cases hn
    exact W.lret C.1 C.2.1 (C.2.2.1.trans hr) hq hS.2.2 (dOk_spec h) C.2.2.2.2.2.2.1
  · cases hn

theorem R_vreturn  (hn : nxt (mC j) (mB j) pc .return_ = some pc') (hr : mR j = none) (hk : K none σ) : Rn d j pc ls ([]) σ K := by
  intro p l e s m args below meth c D dA ρ A H locs la C hl hP hD hS
  have hq : ∀ t : State, t.heap = H → s.WarmedH t.vm → QK D dA ρ A K args s (.returned ((none : Option AV).map (cv ρ))) t := fun t ht hW => ⟨⟨none, σ, rfl, hk, by rw [ht]; exact hP, va_K.moved hW.alike C.2.2.2.2.2.2.2.1, hD⟩, hS.F ht⟩
  simp only [nxt] at hn
  split at hn
  · rename_i h; cases hn
    exact W.vret C.1 C.2.1 (C.2.2.1.trans hr) hq hS.2.2 (dOk_spec h) C.2.2.2.2.2.2.1
  · cases hn

end RULES2B
