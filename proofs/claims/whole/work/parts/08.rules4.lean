/-! 08: members of Math, arraycopy, tableswitch; then the machine as a whole: wp and its soundness -/
def imax (a b : Int) : Int := if a < b then b else a
def imin (a b : Int) : Int := if b < a then b else a
/-- memory with n numbers copied -/
def mcp (σ : Mem) (K0 i0 K1 i1 sp dp n : Nat) : Mem := fun a b c => if a = K1 ∧ b = i1 ∧ dp ≤ c ∧ c < dp + n then σ K0 i0 (sp + (c - dp)) else σ a b c
theorem wld_only {dA : Nat → ClassId} {ρ : Rho} {σ σ' : Mem} {A : Nat → Prop} {K i q0 : Nat} (hK : K < 59) (ho : ∀ a b c, ¬ (a = K ∧ b = i) → σ' a b c = σ a b c) (hq : (dom σ)[q0]? = some (K, i)) (hD : va_D A (wld dA ρ σ)) :
    (wld dA ρ σ).set q0 (ρ K i, cel dA ρ σ' K i) = wld dA ρ σ' := by
  have h60 : ∀ b c, σ' 60 b c = σ 60 b c := fun b c => ho _ _ _ (by omega)
  have h61 : ∀ b c, σ' 61 b c = σ 61 b c := fun b c => ho _ _ _ (by omega)
  have hdom : dom σ' = dom σ := by
    unfold dom
    simp only [cnt, h60]
  apply List.ext_getElem?
  intro n
  rw [List.getElem?_set]
  unfold wld
  rw [hdom, List.getElem?_map, List.getElem?_map, List.length_map]
  by_cases h : q0 = n
  · subst h
    have hl : q0 < (dom σ).length := (List.getElem?_eq_some_iff.mp hq).1
    rw [if_pos rfl, if_pos hl, hq]
    rfl
  · rw [if_neg h]
    cases hn : (dom σ)[n]? with
    | none => rfl
    | some q =>
      have hne : ¬ (q.1 = K ∧ q.2 = i) := fun x => by
        have h1 : (wld dA ρ σ)[q0]? = some (ρ K i, cel dA ρ σ K i) := by
          unfold wld
          rw [List.getElem?_map, hq]
          rfl
        have h2 : (wld dA ρ σ)[n]? = some (ρ q.1 q.2, cel dA ρ σ q.1 q.2) := by
          unfold wld
          rw [List.getElem?_map, hn]
          rfl
        exact h (hD.1 _ _ _ _ h1 h2 (by rw [x.1, x.2]))
      have e : ∀ s, σ' q.1 q.2 s = σ q.1 q.2 s := fun s => ho _ _ _ hne
      simp only [Option.map_some, cel, alen, h61, fvl, arc, e]
section RULES4
variable {d j pc pc' : Nat} {ls st : List AV} {σ : Mem} {K : Option AV → Mem → Prop}
theorem room_m {ρ : Rho} {d1 : Nat} {rest : List AV} (hr : rest.length ≤ 4) (k : Nat) (hk : k ≤ 50) : ((rest.map (cv ρ)).map fun v => v.category).sum + k ≤ (rmd (d1 + 1)).locals := by
  have := st_room (ρ := ρ) hr
  show _ ≤ 64 * (d1 + 1)
  omega
theorem R_imax {a b : Int} (hn : nxt (mC j) (mB j) pc (.dcmp .g) = some pc') (ha : in32 a) (hb : in32 b) (hr : st.length ≤ 4) (hk : Rn (d + 1) j pc' ls (.inl (imax a b) :: st) σ K) : Rn (d + 1) j pc ls (.inl b :: .inl a :: st) σ K := by
  intro p l e s m args below meth c D dA ρ A H locs la C hl hP hD hS
  have G := hk p l e s m args below meth c D dA ρ A H locs la C hl hP hD hS
  simp only [nxt, if_true] at hn
  split at hn
  · rename_i h; cases hn
    obtain ⟨e1, g1, g2⟩ := List.any_eq_true.mp h
    simp only [Bool.and_eq_true, beq_iff_eq, if_true] at g2
    have hlink := C.2.2.2.2.1 _ (mx_in _ (List.mem_map.mpr ⟨e1, g1, rfl⟩))
    rw [g2.1.1, g2.1.2] at hlink
    refine va_mmax C.1 C.2.1 (C.2.2.2.1.trans hl.1.symm) C.2.2.2.2.2.1 hlink (C.2.2.2.2.1 _ (mx_s _ (List.mem_map.mpr ⟨0, by decide, rfl⟩))) (C.2.2.2.2.1 _ (mx_i _ List.mem_cons_self)) (C.2.2.2.2.1 _ (mx_c _ (by decide +kernel))) (Nat.succ_le_succ (Nat.zero_le _)) (room_m hr 13 (by decide)) (Nat.le_refl _) (Nat.le_refl _) (dOk_spec g2.2) ?_
    have e2 : (if Int32.ofInt a < Int32.ofInt b then Int32.ofInt b else Int32.ofInt a) = Int32.ofInt (imax a b) := by
      unfold imax
      simp only [i32_lt ha hb]
      split <;> rfl
    rw [e2]
    exact G
  · cases hn
theorem R_imin {a b : Int} (hn : nxt (mC j) (mB j) pc (.dcmp .l) = some pc') (ha : in32 a) (hb : in32 b) (hr : st.length ≤ 4) (hk : Rn (d + 1) j pc' ls (.inl (imin a b) :: st) σ K) : Rn (d + 1) j pc ls (.inl b :: .inl a :: st) σ K := by
  intro p l e s m args below meth c D dA ρ A H locs la C hl hP hD hS
  have G := hk p l e s m args below meth c D dA ρ A H locs la C hl hP hD hS
  simp only [nxt, reduceCtorEq, if_false] at hn
  split at hn
  · rename_i h; cases hn
    obtain ⟨e1, g1, g2⟩ := List.any_eq_true.mp h
    simp only [Bool.and_eq_true, beq_iff_eq, reduceCtorEq, if_false] at g2
    have hlink := C.2.2.2.2.1 _ (mx_in _ (List.mem_map.mpr ⟨e1, g1, rfl⟩))
    rw [g2.1.1, g2.1.2] at hlink
    refine va_mmin C.1 C.2.1 (C.2.2.2.1.trans hl.1.symm) C.2.2.2.2.2.1 hlink (C.2.2.2.2.1 _ (mx_s _ (List.mem_map.mpr ⟨1, by decide, rfl⟩))) (C.2.2.2.2.1 _ (mx_i _ List.mem_cons_self)) (C.2.2.2.2.1 _ (mx_c _ (by decide +kernel))) (Nat.succ_le_succ (Nat.zero_le _)) (room_m hr 13 (by decide)) (Nat.le_refl _) (Nat.le_refl _) (dOk_spec g2.2) ?_
    have e2 : (if Int32.ofInt b < Int32.ofInt a then Int32.ofInt b else Int32.ofInt a) = Int32.ofInt (imin a b) := by
      unfold imin
      simp only [i32_lt hb ha]
      split <;> rfl
    first
      | (rw [e2]; exact G)
      | (have e3 : (if Int32.ofInt a < Int32.ofInt b then Int32.ofInt a else Int32.ofInt b) = Int32.ofInt (imin a b) := by
           unfold imin
           simp only [i32_lt ha hb]
           split <;> split <;> first | rfl | (congr 1; omega)
         rw [e3]; exact G)
  · cases hn
theorem i64_lt {a b : Int} (ha : in64 a) (hb : in64 b) : Int64.ofInt a < Int64.ofInt b ↔ a < b := by rw [Int64.lt_iff_toInt_lt, i64 ha, i64 hb]
theorem R_lmax {a b : Int} (hn : nxt (mC j) (mB j) pc (.fcmp .g) = some pc') (ha : in64 a) (hb : in64 b) (hr : st.length ≤ 4) (hk : Rn (d + 1) j pc' ls (.inr (.inl (imax a b)) :: st) σ K) : Rn (d + 1) j pc ls (.inr (.inl b) :: .inr (.inl a) :: st) σ K := by
  intro p l e s m args below meth c D dA ρ A H locs la C hl hP hD hS
  have G := hk p l e s m args below meth c D dA ρ A H locs la C hl hP hD hS
  simp only [nxt, if_true] at hn
  split at hn
  · rename_i h; cases hn
    obtain ⟨e1, g1, g2⟩ := List.any_eq_true.mp h
    simp only [Bool.and_eq_true, beq_iff_eq, if_true] at g2
    have hlink := C.2.2.2.2.1 _ (mx_in _ (List.mem_map.mpr ⟨e1, g1, rfl⟩))
    rw [g2.1.1, g2.1.2] at hlink
    refine va_mmax_long C.1 C.2.1 (C.2.2.2.1.trans hl.1.symm) C.2.2.2.2.2.1 hlink (C.2.2.2.2.1 _ (mx_s _ (List.mem_map.mpr ⟨2, by decide, rfl⟩))) (C.2.2.2.2.1 _ (mx_i _ List.mem_cons_self)) (C.2.2.2.2.1 _ (mx_c _ (by decide +kernel))) (Nat.succ_le_succ (Nat.zero_le _)) (room_m hr _ (by decide)) (Nat.le_refl _) (Nat.le_refl _) (dOk_spec g2.2) ?_
    have e2 : (if Int64.ofInt b < Int64.ofInt a then Int64.ofInt a else Int64.ofInt b) = Int64.ofInt (imax a b) := by
      unfold imax
      simp only [i64_lt hb ha]
      split <;> split <;> first | rfl | (congr 1; omega)
    rw [e2]
    exact G
  · cases hn
theorem R_lmin {a b : Int} (hn : nxt (mC j) (mB j) pc (.fcmp .l) = some pc') (ha : in64 a) (hb : in64 b) (hr : st.length ≤ 4) (hk : Rn (d + 1) j pc' ls (.inr (.inl (imin a b)) :: st) σ K) : Rn (d + 1) j pc ls (.inr (.inl b) :: .inr (.inl a) :: st) σ K := by
  intro p l e s m args below meth c D dA ρ A H locs la C hl hP hD hS
  have G := hk p l e s m args below meth c D dA ρ A H locs la C hl hP hD hS
  simp only [nxt, reduceCtorEq, if_false] at hn
  split at hn
  · rename_i h; cases hn
    obtain ⟨e1, g1, g2⟩ := List.any_eq_true.mp h
    simp only [Bool.and_eq_true, beq_iff_eq, reduceCtorEq, if_false] at g2
    have hlink := C.2.2.2.2.1 _ (mx_in _ (List.mem_map.mpr ⟨e1, g1, rfl⟩))
    rw [g2.1.1, g2.1.2] at hlink
    refine va_mmin_long C.1 C.2.1 (C.2.2.2.1.trans hl.1.symm) C.2.2.2.2.2.1 hlink (C.2.2.2.2.1 _ (mx_s _ (List.mem_map.mpr ⟨3, by decide, rfl⟩))) (C.2.2.2.2.1 _ (mx_i _ List.mem_cons_self)) (C.2.2.2.2.1 _ (mx_c _ (by decide +kernel))) (Nat.succ_le_succ (Nat.zero_le _)) (room_m hr _ (by decide)) (Nat.le_refl _) (Nat.le_refl _) (dOk_spec g2.2) ?_
    have e2 : (if Int64.ofInt b < Int64.ofInt a then Int64.ofInt b else Int64.ofInt a) = Int64.ofInt (imin a b) := by
      unfold imin
      simp only [i64_lt hb ha]
      split <;> rfl
    first
      | (rw [e2]; exact G)
      | (have e3 : (if Int64.ofInt a < Int64.ofInt b then Int64.ofInt a else Int64.ofInt b) = Int64.ofInt (imin a b) := by
           unfold imin
           simp only [i64_lt ha hb]
           split <;> split <;> first | rfl | (congr 1; omega)
         rw [e3]; exact G)
  · cases hn
theorem R_copy {K0 i0 K1 i1 : Nat} {sp dp n : Int} (hn : nxt (mC j) (mB j) pc .monitorenter = some pc') (h0 : isK K0 = true) (h02 : ¬ K0 < 13) (h03 : i0 < cnt σ K0) (h04 : aet K0 = 0) (h1 : isK K1 = true) (h12 : ¬ K1 < 13) (h13 : i1 < cnt σ K1) (h14 : aet K1 = 0)
    (hb : 0 ≤ sp ∧ 0 ≤ dp ∧ 0 ≤ n ∧ sp + n ≤ (alen σ K0 i0 : Int) ∧ dp + n ≤ (alen σ K1 i1 : Int) ∧ sp + n < 2147483648 ∧ dp + n < 2147483648) (hr : st.length ≤ 4)
    (hk : Rn (d + 1) j pc' ls st (mcp σ K0 i0 K1 i1 sp.toNat dp.toNat n.toNat) K) : Rn (d + 1) j pc ls (.inl n :: .inl dp :: .inr (.inr (some (K1, i1))) :: .inl sp :: .inr (.inr (some (K0, i0))) :: st) σ K := by
  intro p l e s m args below meth c D dA ρ A H locs la C hl hP hD hS
  obtain ⟨b1, b2, b3, b4, b5, b6, b7⟩ := hb
  obtain ⟨q0, hq1, hq2⟩ := wld_at (dA := dA) (ρ := ρ) h0 h03
  obtain ⟨q1, hr1, hr2⟩ := wld_at (dA := dA) (ρ := ρ) h1 h13
  have hcel0 : cel dA ρ σ K0 i0 = .inl (dA 0, alen σ K0 i0, .inl (fun j => Int32.ofInt (σ K0 i0 j))) := by
    simp only [cel, arc, if_neg h02, h04]
    first | rfl | simp
  have hcel1 : cel dA ρ σ K1 i1 = .inl (dA 0, alen σ K1 i1, .inl (fun j => Int32.ofInt (σ K1 i1 j))) := by
    simp only [cel, arc, if_neg h12, h14]
    first | rfl | simp
  rw [hcel0] at hq2
  rw [hcel1] at hr2
  have hlt : K1 < 59 := dom_lt (dom_mem h1 h13)
  have ho : ∀ a b c, ¬ (a = K1 ∧ b = i1) → mcp σ K0 i0 K1 i1 sp.toNat dp.toNat n.toNat a b c = σ a b c := fun a b c h => by
    unfold mcp
    exact if_neg (fun x => h ⟨x.1, x.2.1⟩)
  have c1 := clampz (z := sp) ⟨by omega, by omega⟩
  have c2 := clampz (z := dp) ⟨by omega, by omega⟩
  have c3 := clampz (z := n) ⟨by omega, by omega⟩
  have hcel2 : cel dA ρ (mcp σ K0 i0 K1 i1 sp.toNat dp.toNat n.toNat) K1 i1 = .inl (dA 0, alen σ K1 i1, .inl (va_cpy (fun j => Int32.ofInt (σ K0 i0 j)) (fun j => Int32.ofInt (σ K1 i1 j)) sp.toNat dp.toNat n.toNat)) := by
    have h61 : ∀ b c, mcp σ K0 i0 K1 i1 sp.toNat dp.toNat n.toNat 61 b c = σ 61 b c := fun b c => ho _ _ _ (by omega)
    simp only [cel, arc, if_neg h12, h14, alen, h61]
    have e : (fun j => Int32.ofInt (mcp σ K0 i0 K1 i1 sp.toNat dp.toNat n.toNat K1 i1 j)) = va_cpy (fun j => Int32.ofInt (σ K0 i0 j)) (fun j => Int32.ofInt (σ K1 i1 j)) sp.toNat dp.toNat n.toNat := by
      funext k
      simp only [mcp, va_cpy, true_and]
      split <;> rfl
    rw [e]
    first | rfl | simp
  have nz : ∀ {z : Int}, 0 ≤ z → z < 2147483648 → ¬ Int32.ofInt z < 0 := fun {z} g1 g2 g3 => by
    have : Int32.ofInt z < Int32.ofInt 0 := g3
    rw [i32_lt ⟨by omega, by omega⟩ z32] at this
    omega
  simp only [nxt] at hn
  split at hn
  · rename_i h; cases hn
    obtain ⟨e1, g1, g2⟩ := List.any_eq_true.mp h
    simp only [Bool.and_eq_true, beq_iff_eq] at g2
    have hlink := C.2.2.2.2.1 _ (ac_in _ (List.mem_map.mpr ⟨e1, g1, rfl⟩))
    rw [g2.1] at hlink
    refine va_copyi (own := cnm (mC j)) C.1 C.2.1 (C.2.2.2.1.trans hl.1.symm) C.2.2.2.2.2.1 hlink (C.2.2.2.2.1 _ (ac_w _ (by decide +kernel))) (C.2.2.2.2.1 _ (ac_w _ (by decide +kernel))) (C.2.2.2.2.1 _ (ac_w _ (by decide +kernel))) C.2.2.2.2.2.2.2.1 hP hD hS q0 q1 0 0 hq2 hr2 rfl rfl rfl (sp := Int32.ofInt sp) (dp := Int32.ofInt dp) (n := Int32.ofInt n) (nz b1 (by omega)) (nz b2 (by omega)) (nz b3 (by omega)) (by rw [c1, c3]; omega) (by rw [c2, c3]; omega) (fun _ _ => rfl) (Nat.succ_le_succ (Nat.zero_le _)) (room_m hr _ (by decide +kernel)) (dOk_spec g2.2) (fun H1 locs1 hP1 hD1 hS1 => ?_)
    rw [c1, c2, c3, ← hcel2, wld_only hlt ho hr1 hD] at hP1 hD1
    exact hk p l e s m args below meth c D dA ρ A H1 locs1 la C hl hP1 hD1 hS1
  · cases hn
/-- a tableswitch's roads -/
def swt (x : Int) (jp : Nat → Prop) : List Int → Int → Prop
  | [], _ => True
  | t :: r, v => (x = v → jp t.toNat) ∧ swt x jp r (v + 1)
theorem swt_get {x : Int} {jp : Nat → Prop} : ∀ (ts : List Int) (v : Int) (k : Nat) (t : Int), swt x jp ts v → ts[k]? = some t → x = v + k → jp t.toNat := by
  intro ts
  induction ts with
  | nil => intro v k t h hk; simp at hk
  | cons a r ih =>
    intro v k t h hk hx
    cases k with
    | zero =>
      simp at hk
      subst hk
      exact h.1 (by simpa using hx)
    | succ k =>
      simp at hk
      exact ih (v + 1) k t h.2 hk (by rw [hx]; push_cast; omega)
theorem R_tsw {d : XR} {K : YQ} {dd lo hi : Int} {offs : Array Int} {x : Int} (hn : nxt (mC j) (mB j) pc (.tableswitch dd lo hi offs) = some pc') (hx : in32 x) (hd : x < lo ∨ hi < x → RnG d j dd.toNat ls st σ K) (hs : swt x (fun t => RnG d j t ls st σ K) offs.toList lo) : RnG d j pc ls (.inl x :: st) σ K := by
  intro p l e s m args below meth c D dA ρ A H locs la C hl hP hD hS
  simp only [nxt] at hn
  split at hn
  · rename_i r len hdec
    split at hn
    · rename_i h
      obtain ⟨h1, h2, h3, h4⟩ := h
      subst h1
      by_cases ho : x < lo ∨ hi < x
      · exact lv_tableOut C.1 C.2.1 hdec (by rw [i32 hx]; exact ho) (by omega) (hd ho p l e s m args below meth c D dA ρ A H locs la C hl hP hD hS)
      · have g1 : lo ≤ x := by omega
        have g2 : x ≤ hi := by omega
        have hlt : (x - lo).toNat < offs.size := by omega
        have hget : offs[(x - lo).toNat]? = some offs[(x - lo).toNat] := Array.getElem?_eq_getElem hlt
        have hpos : 0 ≤ offs[(x - lo).toNat] := by
          have := Array.all_eq_true.mp h3 _ hlt
          simpa using this
        have hjp := swt_get offs.toList lo (x - lo).toNat offs[(x - lo).toNat] hs (by rw [Array.getElem?_toList]; exact hget) (by omega)
        exact lv_tableIn (off := offs[(x - lo).toNat] - (pc : Int)) C.1 C.2.1 hdec (by rw [i32 hx]; omega) (by rw [i32 hx]; omega) (by rw [i32 hx, Array.getElem?_map, hget]; rfl) (by omega) (hjp p l e s m args below meth c D dA ρ A H locs la C hl hP hD hS)
    · cases hn
  · cases hn
end RULES4
