/-! 08b: Strings, plan pointers, lookupswitch, i2l of any representative, ends of byte and char -/
section RULES5
variable {d : XR} {j pc pc' : Nat} {ls st : List AV} {σ : Mem} {K : YQ}
theorem R_ldcS {n : Nat} (hn : nxt (mC j) (mB j) pc (.ldc n) = some pc') (hk : RnG d j pc' ls (.inr (.inr (some (63, n))) :: st) σ K) : RnG d j pc ls st σ K := by
  intro p l e s m args below meth c D dA ρ A H locs la C hl hP hD hS
  have G := hk p l e s m args below meth c D dA ρ A H locs la C hl hP hD hS
  simp only [nxt] at hn
  split at hn
  · rename_i h; cases hn
    obtain ⟨e1, g1, g2⟩ := List.any_eq_true.mp h
    simp only [Bool.and_eq_true, beq_iff_eq] at g2
    have hZ := C.2.2.2.2.2.2.2.2.2.2.2.2.1 e1 g1
    rw [g2.1.1, g2.1.2] at hZ
    exact va_ldcS C.1 C.2.1 C.2.2.2.2.2.1 hZ (dOk_spec g2.2) G
  · cases hn
theorem sfl_w {k : Nat} (hk : k < 4) : Cond.fieldLink "java/lang/String" (sfl k).1 (sfl k).2.1 (sfl k).2.2.1 (sfl k).2.2.2 ∈ tbg := sfl_in _ (List.mem_map.mpr ⟨k, by revert k; decide, rfl⟩)
theorem cnm16 : cnm 16 = "java/lang/String" := rfl
theorem R_strv {n : Nat} (hn : nxt (mC j) (mB j) pc (.anewarray 0) = some pc') (hs : n < NSTR) (hk : RnG d j pc' ls (.inr (.inr (some (64, n))) :: st) σ K) : RnG d j pc ls (.inr (.inr (some (63, n))) :: st) σ K := by
  intro p l e s m args below meth c D dA ρ A H locs la C hl hP hD hS
  have G := hk p l e s m args below meth c D dA ρ A H locs la C hl hP hD hS
  have hT := C.2.2.2.2.2.2.2.2.2.2.2.1 n hs
  have ho := C.2.2.2.2.2.1
  simp only [nxt, if_pos (show 0 < 2 by decide)] at hn
  split at hn
  · rename_i h; cases hn
    simp only [Bool.and_eq_true, beq_iff_eq] at h
    rw [h.1] at ho
    exact vk_getf (own := "java/lang/String") (ref := "java/lang/String") C.1 C.2.1 hT.2.2.1 hS ho (C.2.2.2.2.1 _ (sfl_w (k := 0) (by decide))) (fun _ h9 => h9) (dOk_spec h.2) G
  · cases hn
theorem R_strc {n : Nat} (hn : nxt (mC j) (mB j) pc (.anewarray 1) = some pc') (hs : n < NSTR) (hk : RnG d j pc' ls (.inl 0 :: st) σ K) : RnG d j pc ls (.inr (.inr (some (63, n))) :: st) σ K := by
  intro p l e s m args below meth c D dA ρ A H locs la C hl hP hD hS
  have G := hk p l e s m args below meth c D dA ρ A H locs la C hl hP hD hS
  have hT := C.2.2.2.2.2.2.2.2.2.2.2.1 n hs
  have ho := C.2.2.2.2.2.1
  simp only [nxt, if_pos (show 1 < 2 by decide)] at hn
  split at hn
  · rename_i h; cases hn
    simp only [Bool.and_eq_true, beq_iff_eq] at h
    rw [h.1] at ho
    exact vk_getf (own := "java/lang/String") (ref := "java/lang/String") C.1 C.2.1 hT.2.1 hS ho (C.2.2.2.2.1 _ (sfl_w (k := 1) (by decide))) (fun _ h9 => h9) (dOk_spec h.2) G
  · cases hn
theorem R_strC (hn : nxt (mC j) (mB j) pc (.anewarray 2) = some pc') (hk : RnG d j pc' ls (.inl 1 :: st) σ K) : RnG d j pc ls st σ K := by
  intro p l e s m args below meth c D dA ρ A H locs la C hl hP hD hS
  have G := hk p l e s m args below meth c D dA ρ A H locs la C hl hP hD hS
  have hT := C.2.2.2.2.2.2.2.2.2.2.2.2.2
  have ho := C.2.2.2.2.2.1
  simp only [nxt, if_neg (show ¬ 2 < 2 by decide), if_pos (show 2 < 4 by decide)] at hn
  split at hn
  · rename_i h; cases hn
    simp only [Bool.and_eq_true, beq_iff_eq] at h
    rw [h.1] at ho
    exact va_gets (own := "java/lang/String") (ref := "java/lang/String") C.1 C.2.1 hT.1 hS ho (C.2.2.2.2.1 _ (sfl_w (k := 2) (by decide))) (fun _ h9 => h9) (dOk_spec h.2) G
  · cases hn
theorem R_strP (hn : nxt (mC j) (mB j) pc (.anewarray 3) = some pc') (hk : RnG d j pc' ls (.inr (.inr none) :: st) σ K) (hk2 : RnG d j pc' ls (.inr (.inr (some (66, 0))) :: st) σ K) : RnG d j pc ls st σ K := by
  intro p l e s m args below meth c D dA ρ A H locs la C hl hP hD hS
  have G := hk p l e s m args below meth c D dA ρ A H locs la C hl hP hD hS
  have G2 := hk2 p l e s m args below meth c D dA ρ A H locs la C hl hP hD hS
  have hT := C.2.2.2.2.2.2.2.2.2.2.2.2.2
  have ho := C.2.2.2.2.2.1
  simp only [nxt, if_neg (show ¬ 3 < 2 by decide), if_pos (show 3 < 4 by decide)] at hn
  split at hn
  · rename_i h; cases hn
    simp only [Bool.and_eq_true, beq_iff_eq] at h
    rw [h.1] at ho
    rcases hT.2 with hT | hT
    · exact va_gets (own := "java/lang/String") (ref := "jdk/internal/util/Preconditions") C.1 C.2.1 hT hS ho (C.2.2.2.2.1 _ (sfl_w (k := 3) (by decide))) (fun _ h9 => h9) (dOk_spec h.2) G
    · exact va_gets (own := "java/lang/String") (ref := "jdk/internal/util/Preconditions") C.1 C.2.1 hT hS ho (C.2.2.2.2.1 _ (sfl_w (k := 3) (by decide))) (fun _ h9 => h9) (dOk_spec h.2) G2
  · cases hn
theorem R_strl {n : Nat} (hn : nxt (mC j) (mB j) pc (.anewarray 4) = some pc') (hs : n < NSTR) (hk : RnG d j pc' ls (.inl ((sby n).length : Int) :: st) σ K) : RnG d j pc ls (.inr (.inr (some (64, n))) :: st) σ K := by
  intro p l e s m args below meth c D dA ρ A H locs la C hl hP hD hS
  have G := hk p l e s m args below meth c D dA ρ A H locs la C hl hP hD hS
  have hT := C.2.2.2.2.2.2.2.2.2.2.2.1 n hs
  simp only [nxt, if_neg (show ¬ 4 < 2 by decide), if_neg (show ¬ 4 < 4 by decide), if_pos (show ((4 : Nat) == 4) = true from rfl)] at hn
  split at hn
  · rename_i h; cases hn
    exact va_tlen C.1 C.2.1 hT.2.2.2 hS (by rw [← Int32.ofInt_eq_ofNat]) (dOk_spec h) G
  · cases hn
theorem R_strb {n : Nat} {z : Int} (hn : nxt (mC j) (mB j) pc (.anewarray 5) = some pc') (hs : n < NSTR) (h0 : 0 ≤ z) (h1 : z < ((sby n).length : Int)) (h2 : z < 2147483648) (hk : RnG d j pc' ls (.inl ((sby n).getD z.toNat 0) :: st) σ K) : RnG d j pc ls (.inl z :: .inr (.inr (some (64, n))) :: st) σ K := by
  intro p l e s m args below meth c D dA ρ A H locs la C hl hP hD hS
  have G := hk p l e s m args below meth c D dA ρ A H locs la C hl hP hD hS
  have hT := C.2.2.2.2.2.2.2.2.2.2.2.1 n hs
  have hz : in32 z := ⟨by omega, h2⟩
  have hin : vp_in (Int32.ofInt z) (sby n).length := by
    unfold vp_in
    rw [clampz hz]
    rintro (h | h)
    · have : Int32.ofInt z < Int32.ofInt 0 := h
      rw [i32_lt hz ⟨by omega, by omega⟩] at this
      omega
    · omega
  simp only [nxt, if_neg (show ¬ 5 < 2 by decide), if_neg (show ¬ 5 < 4 by decide), if_neg (show ¬ ((5 : Nat) == 4) = true by decide)] at hn
  split at hn
  · rename_i h; cases hn
    exact va_tb C.1 C.2.1 hT.2.2.2 hS hin (by rw [clampz hz]; rfl) (dOk_spec h) G
  · cases hn
theorem i2lm {a : Int} : (Int32.ofInt a).toInt64 = Int64.ofInt (a.bmod 4294967296) := by
  have h1 := Int.bmod_lt (x := a) (m := 4294967296) (by decide)
  have h2 := Int.le_bmod (x := a) (m := 4294967296) (by decide)
  rw [← Int64.toInt_inj, Int32.toInt_toInt64, Int32.toInt_ofInt, i64 ⟨by omega, by omega⟩]
theorem R_i2lm {a : Int} {k : Nat} (hn : nxt (mC j) (mB j) pc (.ldc2_w k) = some pc') (hk : RnG d j pc' ls (.inr (.inl (a.bmod 4294967296)) :: st) σ K) : RnG d j pc ls (.inl a :: st) σ K := by
  intro p l e s m args below meth c D dA ρ A H locs la C hl hP hD hS
  have G := hk p l e s m args below meth c D dA ρ A H locs la C hl hP hD hS
  simp only [nxt] at hn
  split at hn
  · rename_i h; cases hn
    exact lv_i2l C.1 C.2.1 (dOk_spec h) i2lm G
  · cases hn
/-- a lookupswitch's roads -/
def lsw (x : Int) (jp : Nat → Prop) (dd : Int) : List (Int × Int) → Prop
  | [] => jp dd.toNat
  | t :: r => (x = t.1 → jp t.2.toNat) ∧ (¬ x = t.1 → lsw x jp dd r)
theorem lsw_mono {x dd : Int} {f g : Nat → Prop} (h : ∀ t, f t → g t) : ∀ (ts : List (Int × Int)), lsw x f dd ts → lsw x g dd ts := by
  intro ts
  induction ts with
  | nil => intro hs; exact h _ hs
  | cons a r ih => intro hs; exact ⟨fun e => h _ (hs.1 e), fun e => ih (hs.2 e)⟩
theorem lsw_get {x dd : Int} {jp : Nat → Prop} {pc : Nat} (hd : 0 ≤ dd) : ∀ (ts : List (Int × Int)), (∀ o ∈ ts, 0 ≤ o.2) → lsw x jp dd ts → ∃ t : Nat, jp t ∧ (pc : Int) + Op.lookupswitch.offset (ts.map (fun o => (o.1, o.2 - pc))) (dd - pc) x = (t : Int) := by
  intro ts
  induction ts with
  | nil => intro _ hs; exact ⟨dd.toNat, hs, by simp only [List.map_nil, Op.lookupswitch.offset]; omega⟩
  | cons a r ih =>
    intro h0 hs
    by_cases e : x = a.1
    · refine ⟨a.2.toNat, hs.1 e, ?_⟩
      have := h0 a List.mem_cons_self
      show (pc : Int) + (if a.1 = x then a.2 - pc else Op.lookupswitch.offset (r.map (fun o => (o.1, o.2 - pc))) (dd - pc) x) = _
      rw [if_pos e.symm]
      omega
    · obtain ⟨t, h1, h2⟩ := ih (fun o ho => h0 o (List.mem_cons_of_mem _ ho)) (hs.2 e)
      refine ⟨t, h1, ?_⟩
      have e2 : ¬ a.1 = x := fun z => e z.symm
      show (pc : Int) + (if a.1 = x then a.2 - pc else Op.lookupswitch.offset (r.map (fun o => (o.1, o.2 - pc))) (dd - pc) x) = _
      rw [if_neg e2]
      exact h2
theorem R_lsw {dd : Int} {ps : Array (Int × Int)} {x : Int} (hn : nxt (mC j) (mB j) pc (.lookupswitch dd ps) = some pc') (hx : in32 x) (hs : lsw x (fun t => RnG d j t ls st σ K) dd ps.toList) : RnG d j pc ls (.inl x :: st) σ K := by
  intro p l e s m args below meth c D dA ρ A H locs la C hl hP hD hS
  simp only [nxt] at hn
  split at hn
  · rename_i r len hdec
    split at hn
    · rename_i h
      obtain ⟨h1, h2, h3, h4⟩ := h
      subst h1
      obtain ⟨t, ht1, ht2⟩ := lsw_get (pc := pc) h2 ps.toList (fun o ho => by
        obtain ⟨i, hi, e⟩ := Array.getElem_of_mem (Array.mem_toList_iff.mp ho)
        have := Array.all_eq_true.mp h3 i hi
        rw [e] at this
        simpa using this) hs
      refine lv_lookup C.1 C.2.1 hdec ?_ rfl (by rw [i32 hx, Array.toList_map]; exact ht2) (ht1 p l e s m args below meth c D dA ρ A H locs la C hl hP hD hS)
      rw [Array.toList_map, ← List.map_drop, List.zip_map, List.all_map]
      exact h4
    · cases hn
  · cases hn

/-- a field of the class, by its slot: what it is -/
def fdk0 (x : Nat) : Nat × Nat × Nat × Nat := ((fds (x / 64))[x % 64]?).getD (9, 0, 0, 0)
def pOk (x : Nat) : Bool := decide (x / 64 < 13) && decide (x % 64 < nX (x / 64)) && decide (fdk0 x = (4, 3, 0, 0)) && decide (parseFieldDescriptor (tX (x / 64) (x % 64)).2.2.1 = some (.object RX3)) && !(tX (x / 64) (x % 64)).2.2.2
theorem R_putP {x i n : Nat} (hn : nxt (mC j) (mB j) pc (.ldc_w x) = some pc') (hok : pOk x = true) (hi : i < cnt σ (x / 64)) (hk : RnG d j pc' ls st (mu σ (x / 64) i (x % 64) (n : Int)) K) : RnG d j pc ls (.inr (.inr (some (3, n))) :: .inr (.inr (some (x / 64, i))) :: st) σ K := by
  intro p l e s m args below meth c D dA ρ A H locs la C hl hP hD hS
  simp only [pOk, Bool.and_eq_true, decide_eq_true_eq, Bool.not_eq_true'] at hok
  obtain ⟨⟨⟨⟨hc, hx⟩, hfd⟩, hpd⟩, hfin⟩ := hok
  have hs : (fds (x / 64))[x % 64]? = some (4, 3, 0, 0) := by
    unfold fdk0 at hfd
    cases hc : (fds (x / 64))[x % 64]? with
    | none => rw [hc] at hfd; simp at hfd
    | some y => rw [hc] at hfd; simp only [Option.getD_some] at hfd; rw [hfd]
  obtain ⟨q0, hq1, hq2⟩ := wld_at (dA := dA) (ρ := ρ) (K := x / 64) (by simp [isK, hc]) hi
  simp only [cel, if_pos hc] at hq2
  obtain ⟨h1, h2, h3, h4⟩ := cl_at hc
  have f4 : fvl ρ (mu σ (x / 64) i (x % 64) (n : Int)) (x / 64) i (x % 64) (4, 3, 0, 0) = cv ρ (.inr (.inr (some (3, n)))) := by
    simp [fvl, mu, cv]
  have hlen : x % 64 < ((fds (x / 64)).mapIdx (fun s fd => fvl ρ σ (x / 64) i s fd)).length := by rw [List.length_mapIdx]; exact (List.getElem?_eq_some_iff.mp hs).1
  have hcel2 : cel dA ρ (mu σ (x / 64) i (x % 64) (n : Int)) (x / 64) i = .inr (x / 64, ((fds (x / 64)).mapIdx (fun s fd => fvl ρ σ (x / 64) i s fd)).set (x % 64) (cv ρ (.inr (.inr (some (3, n)))))) := by
    simp only [cel, if_pos hc]
    rw [← f4, fld_set hs]
  simp only [nxt] at hn
  split at hn
  · rename_i h; cases hn
    obtain ⟨e1, g1, g2⟩ := List.any_eq_true.mp h
    simp only [Bool.and_eq_true, beq_iff_eq] at g2
    obtain ⟨⟨⟨a1, a2⟩, a3⟩, a4⟩ := g2
    refine va_put (C := cnm (x / 64)) (T := tX (x / 64)) (N := nX (x / 64)) (own := cnm (mC j)) (index := e1.2.1) C.1 C.2.1 C.2.2.2.2.1 h2 (tyX (x / 64)) h3 h4 C.2.2.2.2.2.1 C.2.2.2.2.2.2.2.1 hP hD hS q0 hq2 h1 (x % 64) hx (C.2.2.2.2.1 _ (fl_in _ (List.mem_map.mpr ⟨e1, g1, by simp only [flw, a1, a2, a3]⟩))) (fun _ h9 => h9) hfin hpd rfl rfl hlen (dOk_spec a4) (fun H1 locs1 hP1 hD1 hS1 => ?_)
    rw [← hcel2, wld_set (by omega) hq1 hD] at hP1 hD1
    exact hk p l e s m args below meth c D dA ρ A H1 locs1 la C hl hP1 hD1 hS1
  · cases hn
end RULES5
section RULES5B
variable {d j pc pc' : Nat} {ls st : List AV} {σ : Mem} {K : Option AV → Mem → Prop}
theorem R_nreturn {a : Int} (hn : nxt (mC j) (mB j) pc .freturn = some pc') (hr : (mR j = some .byte ∧ -128 ≤ a ∧ a ≤ 127) ∨ (mR j = some .char ∧ 0 ≤ a ∧ a < 256)) (hk : K (some (.inl a)) σ) : Rn d j pc ls (.inl a :: []) σ K := by
  intro p l e s m args below meth c D dA ρ A H locs la C hl hP hD hS
  have hq : ∀ t : State, t.heap = H → s.WarmedH t.vm → QK D dA ρ A K args s (.returned (((some (.inl a)) : Option AV).map (cv ρ))) t := fun t ht hW => ⟨⟨(some (.inl a)), σ, rfl, hk, by rw [ht]; exact hP, va_K.moved hW.alike C.2.2.2.2.2.2.2.1, hD⟩, hS.F ht⟩
  simp only [nxt] at hn
  split at hn
  · rename_i h; cases hn
    rcases hr with ⟨hr, h1, h2⟩ | ⟨hr, h1, h2⟩
    · exact W.zret C.1 C.2.1 (C.2.2.1.trans hr) (congrArg Value.int (nar_b ⟨h1, h2⟩)) hq hS.2.2 (dOk_spec h) C.2.2.2.2.2.2.1
    · refine W.zret C.1 C.2.1 (C.2.2.1.trans hr) (congrArg Value.int ?_) hq hS.2.2 (dOk_spec h) C.2.2.2.2.2.2.1
      have hall : ∀ n : Nat, n < 256 → (Int32.ofInt (n : Int)).toUInt32.toUInt16.toUInt32.toInt32 = Int32.ofInt (n : Int) := by decide +kernel
      have := hall a.toNat (by omega)
      rw [show ((a.toNat : Nat) : Int) = a by omega] at this
      exact this
  · cases hn
theorem R_callSt {x i : Nat} {av rest : List AV} (hn : nxt (mC j) (mB j) pc (.invokevirtual x) = some pc') (hi : i < NSTR) (ha : av.length = mP x) (hr : rest.length ≤ 4) (hk : Ev d x (.inr (.inr (some (63, i))) :: av) σ (fun r σ' => Rn (d + 1) j pc' ls (psh r rest) σ' K)) : Rn (d + 1) j pc ls (av.reverse ++ .inr (.inr (some (63, i))) :: rest) σ K := by
  intro p l e s m args below meth c D dA ρ A H locs la C hl hP hD hS
  have hC := C
  obtain ⟨hx, hb, hrr, hml, hts, hown, hlk, hK, hA, hT⟩ := C
  have hM := hk l D dA ρ H.size
  simp only [nxt] at hn
  split at hn
  · rename_i h0; cases hn
    simp only [Bool.not_eq_true', Bool.and_eq_true, decide_eq_true_eq, beq_iff_eq] at h0
    obtain ⟨⟨⟨h1, h2⟩, h4⟩, h⟩ := h0
    obtain ⟨m1, m2, m3, m4, m5, m6, m7⟩ := mok_spec h1
    have hp := pre_call (av := .inr (.inr (some (63, i))) :: av) hK hA hT hP hD hS
    have hrec : ∃ cell : Cell, H[ρ 63 i]? = some cell ∧ cell.vm.isStatics = false ∧ s.vm.findClass "java/lang/String" = some cell.cls := by
      obtain ⟨cell, h1, h2, h3, -⟩ := (hT.2.2.1 i hi).1.kept hS.2.1
      exact ⟨cell, h1, h2, h3⟩
    have hC2 : (mY x).cls = "java/lang/String" := by rw [m2, h2]; rfl
    have hstack : (F0 m pc la ((av.reverse ++ .inr (.inr (some (63, i))) :: rest).map (cv ρ))).stack = (av.map (cv ρ)).reverse ++ Value.ref (ρ 63 i) :: rest.map (cv ρ) := by simp [cv]
    obtain ⟨e1, g1, g2⟩ := List.any_eq_true.mp h
    simp only [Bool.and_eq_true, beq_iff_eq] at g2
    obtain ⟨⟨a1, a2⟩, a3⟩ := g2
    have hlink := hts _ (ml_in _ (List.mem_map.mpr ⟨e1, g1, rfl⟩))
    rw [a1, a2] at hlink
    exact run_on hC hl hD hS (va_runV (own := cnm (mC j)) (C := (mY x).cls) ⟨hx, hb, hml, hown, hts⟩ hM ⟨callB_of (mP x) hts (good_tbg _ h1) rfl rfl rfl (hts _ m5) hlink m3 (room_ok m4), hts _ (m7 h4).1, hts _ (m7 h4).2⟩ ⟨hp.1, by rw [hC2]; exact hrec, hp.2⟩ rfl (by simp [ha]) hl.1 hstack (lv_room (st_room hr)) (dOk_spec a3) ⟨Nat.le_refl _, Nat.le_refl _⟩)
  · cases hn
end RULES5B
