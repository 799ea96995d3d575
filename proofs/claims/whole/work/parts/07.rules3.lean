/-! 07: fields, calls, switches, members of Math, arraycopy -/
/-- an int's or a long's own field type -/
def fty (w : Nat) : FieldType := if w = 1 then .long else if w = 2 then .boolean else .int
def fOk (ci s : Nat) : Bool := match (fds ci)[s]? with
  | none => true
  | some fd => decide (s < nX ci) && (if fd.1 < 3 then decide (parseFieldDescriptor (tX ci s).2.2.1 = some (fty fd.1)) && !(tX ci s).2.2.2 else true)
set_option maxRecDepth 100000 in
theorem f_ok : (List.range 13).all (fun ci => (List.range 40).all (fun s => fOk ci s)) = true := by decide +kernel
theorem fds_len : ∀ ci, ci < 13 → (fds ci).length ≤ 40 := by decide
theorem fOk_of {ci s : Nat} {fd : Nat × Nat × Nat × Nat} (hc : ci < 13) (hs : (fds ci)[s]? = some fd) : s < nX ci ∧ (fd.1 < 3 → parseFieldDescriptor (tX ci s).2.2.1 = some (fty fd.1) ∧ (tX ci s).2.2.2 = false) := by
  have hl : s < 40 := Nat.lt_of_lt_of_le (List.getElem?_eq_some_iff.mp hs).1 (fds_len ci hc)
  have h := List.all_eq_true.mp (List.all_eq_true.mp f_ok ci (List.mem_range.mpr hc)) s (List.mem_range.mpr hl)
  simp only [fOk, hs, Bool.and_eq_true, decide_eq_true_eq] at h
  refine ⟨h.1, fun h3 => ?_⟩
  have h2 := h.2
  rw [if_pos h3] at h2
  simp only [Bool.and_eq_true, decide_eq_true_eq, Bool.not_eq_true'] at h2
  exact h2
theorem cl_at {ci : Nat} (h : ci < 13) : vwCl[ci]? = some (cnm ci, tX ci, nX ci) ∧ (∀ w ∈ u_ws (cnm ci) (tX ci) (nX ci), w ∈ tbg) ∧ (∀ k, k < nX ci → parseFieldDescriptor (tX ci k).2.2.1 = some (tyX ci k)) ∧ (∀ a, a < nX ci → ∀ b, b < nX ci → a ≠ b → (tX ci a).2.1 ≠ (tX ci b).2.1) := by
  rcases ci with _ | _ | _ | _ | _ | _ | _ | _ | _ | _ | _ | _ | _ | n
  · exact ⟨rfl, ly_0, tyX0_ok, nmX0⟩
  · exact ⟨rfl, ly_1, tyX1_ok, nmX1⟩
  · exact ⟨rfl, ly_2, tyX2_ok, nmX2⟩
  · exact ⟨rfl, ly_3, tyX3_ok, nmX3⟩
  · exact ⟨rfl, ly_4, tyX4_ok, nmX4⟩
  · exact ⟨rfl, ly_5, tyX5_ok, nmX5⟩
  · exact ⟨rfl, ly_6, tyX6_ok, nmX6⟩
  · exact ⟨rfl, ly_7, tyX7_ok, nmX7⟩
  · exact ⟨rfl, ly_8, tyX8_ok, nmX8⟩
  · exact ⟨rfl, ly_9, tyX9_ok, nmX9⟩
  · exact ⟨rfl, ly_10, tyX10_ok, nmX10⟩
  · exact ⟨rfl, ly_11, tyX11_ok, nmX11⟩
  · exact ⟨rfl, ly_12, tyX12_ok, nmX12⟩
  · omega
/-- the value that a field's read leaves -/
def frd (σ : Mem) (K i s : Nat) (fd : Nat × Nat × Nat × Nat) : AV :=
  if fd.1 = 3 then .inr (.inr (some (fd.2.1, fd.2.2.1 * i + fd.2.2.2))) else if fd.1 = 4 then .inr (.inr (some (fd.2.1, (σ K i s).toNat))) else if fd.1 = 1 then .inr (.inl (σ K i s)) else .inl (σ K i s)
theorem frd_cv {ρ : Rho} {σ : Mem} {K i s : Nat} {fd : Nat × Nat × Nat × Nat} : cv ρ (frd σ K i s fd) = fvl ρ σ K i s fd := by
  unfold frd fvl
  split
  · rfl
  · split
    · rfl
    · split <;> rfl
section RULES3
variable {d : XR} {j pc pc' : Nat} {ls st : List AV} {σ : Mem} {K : YQ}
theorem R_getf {x i : Nat} {fd : Nat × Nat × Nat × Nat} (hn : nxt (mC j) (mB j) pc (.getfield x) = some pc') (hc : x / 64 < 13) (hi : i < cnt σ (x / 64)) (hs : (fds (x / 64))[x % 64]? = some fd) (hk : RnG d j pc' ls (frd σ (x / 64) i (x % 64) fd :: st) σ K) : RnG d j pc ls (.inr (.inr (some (x / 64, i))) :: st) σ K := by
  intro p l e s m args below meth c D dA ρ A H locs la C hl hP hD hS
  have G := hk p l e s m args below meth c D dA ρ A H locs la C hl hP hD hS
  simp only [List.map_cons, frd_cv] at G
  obtain ⟨q0, hq1, hq2⟩ := wld_at (dA := dA) (ρ := ρ) (K := x / 64) (by simp [isK, hc]) hi
  simp only [cel, if_pos hc] at hq2
  obtain ⟨h1, h2, h3, h4⟩ := cl_at hc
  have hf := fOk_of hc hs
  simp only [nxt] at hn
  split at hn
  · rename_i h; cases hn
    obtain ⟨e1, g1, g2⟩ := List.any_eq_true.mp h
    simp only [Bool.and_eq_true, beq_iff_eq] at g2
    obtain ⟨⟨⟨a1, a2⟩, a3⟩, a4⟩ := g2
    exact va_get (C := cnm (x / 64)) (T := tX (x / 64)) (N := nX (x / 64)) (own := cnm (mC j)) (index := e1.2.1) C.1 C.2.1 C.2.2.2.2.1 h2 C.2.2.2.2.2.1 C.2.2.2.2.2.2.2.1 hP q0 hq2 h1 (x % 64) hf.1 (C.2.2.2.2.1 _ (fl_in _ (List.mem_map.mpr ⟨e1, g1, by simp only [flw, a1, a2, a3]⟩))) (fun _ h9 => h9) (fld_at (dA := dA) hs) (dOk_spec a4) G
  · split at hn
    · rename_i h; cases hn
      obtain ⟨e1, g1, g2⟩ := List.any_eq_true.mp h
      simp only [Bool.and_eq_true, beq_iff_eq] at g2
      obtain ⟨⟨⟨a1, a2⟩, a3⟩, a4⟩ := g2
      have hw := va_Nw.use (A := args) rfl (C.2.2.2.2.2.2.2.2.2.1 e1 g1)
      simp only [fln, a1, a2, a3] at hw
      exact va_getN (C := cnm (x / 64)) (T := tX (x / 64)) (N := nX (x / 64)) (own := cnm (mC j)) (index := e1.2.1) C.1 C.2.1 C.2.2.2.2.1 h2 C.2.2.2.2.2.1 C.2.2.2.2.2.2.2.1 hP q0 hq2 h1 (x % 64) hf.1 hw (fun _ h9 => h9) (fld_at (dA := dA) hs) (dOk_spec a4) G
    · cases hn
/-- what may be put into a field -/
def fput (fd : Nat × Nat × Nat × Nat) (v : AV) : Prop := match v with
  | .inl z => fd.1 = 0 ∨ (fd.1 = 2 ∧ (z = 0 ∨ z = 1))
  | .inr (.inl _) => fd.1 = 1
  | _ => False
def vnum (v : AV) : Int := match v with
  | .inl z => z
  | .inr (.inl z) => z
  | _ => 0
theorem fput_spec {ρ : Rho} {σ : Mem} {K i s : Nat} {fd : Nat × Nat × Nat × Nat} {v : AV} (h : fput fd v) : fd.1 < 3 ∧ narrow (fty fd.1) (cv ρ v) = cv ρ v ∧ fits (fty fd.1) (cv ρ v) = true ∧ fvl ρ (mu σ K i s (vnum v)) K i s fd = cv ρ v := by
  have e : mu σ K i s (vnum v) K i s = vnum v := by simp [mu]
  rcases v with z | z | _ | q
  · rcases h with h | ⟨h, h2⟩
    · refine ⟨by omega, ?_, ?_, ?_⟩ <;> simp [fty, fvl, h, narrow, fits, cv, vnum, mu]
    · refine ⟨by omega, ?_, ?_, ?_⟩
      · rcases h2 with rfl | rfl <;> simp [fty, h, narrow, cv] <;> rfl
      · rcases h2 with rfl | rfl <;> simp [fty, h, fits, cv] <;> rfl
      · simp [fvl, h, cv, vnum, mu]
  · have h : fd.1 = 1 := h
    refine ⟨by omega, ?_, ?_, ?_⟩ <;> simp [fty, fvl, h, narrow, fits, cv, vnum, mu]
  · exact h.elim
  · exact h.elim
theorem R_putf {x i : Nat} {fd : Nat × Nat × Nat × Nat} {v : AV} (hn : nxt (mC j) (mB j) pc (.putfield x) = some pc') (hc : x / 64 < 13) (hi : i < cnt σ (x / 64)) (hs : (fds (x / 64))[x % 64]? = some fd) (hv : fput fd v) (hk : RnG d j pc' ls st (mu σ (x / 64) i (x % 64) (vnum v)) K) : RnG d j pc ls (v :: .inr (.inr (some (x / 64, i))) :: st) σ K := by
  intro p l e s m args below meth c D dA ρ A H locs la C hl hP hD hS
  obtain ⟨q0, hq1, hq2⟩ := wld_at (dA := dA) (ρ := ρ) (K := x / 64) (by simp [isK, hc]) hi
  simp only [cel, if_pos hc] at hq2
  obtain ⟨h1, h2, h3, h4⟩ := cl_at hc
  have hf := fOk_of hc hs
  obtain ⟨f1, f2, f3, f4⟩ := fput_spec (ρ := ρ) (σ := σ) (K := x / 64) (i := i) (s := x % 64) hv
  have hlen : x % 64 < ((fds (x / 64)).mapIdx (fun s fd => fvl ρ σ (x / 64) i s fd)).length := by rw [List.length_mapIdx]; exact (List.getElem?_eq_some_iff.mp hs).1
  have hcel2 : cel dA ρ (mu σ (x / 64) i (x % 64) (vnum v)) (x / 64) i = .inr (x / 64, ((fds (x / 64)).mapIdx (fun s fd => fvl ρ σ (x / 64) i s fd)).set (x % 64) (cv ρ v)) := by
    simp only [cel, if_pos hc]
    rw [← f4, fld_set hs]
  have done : ∀ (H1 : Heap) (locs1 : List Loc), va_P D vwCl ((wld dA ρ σ).set q0 (ρ (x / 64) i, .inr (x / 64, ((fds (x / 64)).mapIdx (fun s fd => fvl ρ σ (x / 64) i s fd)).set (x % 64) (cv ρ v)))) H1 → va_D A ((wld dA ρ σ).set q0 (ρ (x / 64) i, .inr (x / 64, ((fds (x / 64)).mapIdx (fun s fd => fvl ρ σ (x / 64) i s fd)).set (x % 64) (cv ρ v)))) → va_S A s.heap H1 locs1 → W p l e d.1 s m args below meth c H1 locs1 d.2.1 d.2.2 (K below args s D dA ρ A) (F0 m pc' la (st.map (cv ρ))) := by
    intro H1 locs1 hP1 hD1 hS1
    rw [← hcel2, wld_set (by omega) hq1 hD] at hP1 hD1
    exact hk p l e s m args below meth c D dA ρ A H1 locs1 la C hl hP1 hD1 hS1
  simp only [nxt] at hn
  split at hn
  · rename_i h; cases hn
    obtain ⟨e1, g1, g2⟩ := List.any_eq_true.mp h
    simp only [Bool.and_eq_true, beq_iff_eq] at g2
    obtain ⟨⟨⟨a1, a2⟩, a3⟩, a4⟩ := g2
    exact va_put (C := cnm (x / 64)) (T := tX (x / 64)) (N := nX (x / 64)) (own := cnm (mC j)) (index := e1.2.1) C.1 C.2.1 C.2.2.2.2.1 h2 (tyX (x / 64)) h3 h4 C.2.2.2.2.2.1 C.2.2.2.2.2.2.2.1 hP hD hS q0 hq2 h1 (x % 64) hf.1 (C.2.2.2.2.1 _ (fl_in _ (List.mem_map.mpr ⟨e1, g1, by simp only [flw, a1, a2, a3]⟩))) (fun _ h9 => h9) (hf.2 f1).2 (hf.2 f1).1 f2 f3 hlen (dOk_spec a4) done
  · split at hn
    · rename_i h; cases hn
      obtain ⟨e1, g1, g2⟩ := List.any_eq_true.mp h
      simp only [Bool.and_eq_true, beq_iff_eq] at g2
      obtain ⟨⟨⟨a1, a2⟩, a3⟩, a4⟩ := g2
      have hw := va_Nw.use (A := args) rfl (C.2.2.2.2.2.2.2.2.2.1 e1 g1)
      simp only [fln, a1, a2, a3] at hw
      exact va_putN (C := cnm (x / 64)) (T := tX (x / 64)) (N := nX (x / 64)) (own := cnm (mC j)) (index := e1.2.1) C.1 C.2.1 C.2.2.2.2.1 h2 (tyX (x / 64)) h3 h4 C.2.2.2.2.2.1 C.2.2.2.2.2.2.2.1 hP hD hS q0 hq2 h1 (x % 64) hf.1 hw (fun _ h9 => h9) (hf.2 f1).2 (hf.2 f1).1 f2 f3 hlen (dOk_spec a4) done
    · cases hn
end RULES3
section RULES3B
variable {d j pc pc' : Nat} {ls st : List AV} {σ : Mem} {K : Option AV → Mem → Prop}
/-! calls -/
def psh (r : Option AV) (st : List AV) : List AV := match r with
  | none => st
  | some v => v :: st
theorem psh_map {ρ : Rho} {r : Option AV} {st : List AV} : (r.map (cv ρ)).toList ++ st.map (cv ρ) = (psh r st).map (cv ρ) := by cases r <;> rfl
theorem st_room {ρ : Rho} : ∀ {st : List AV}, st.length ≤ 4 → ((st.map (cv ρ)).map fun v => v.category).sum ≤ 8 := by
  have h : ∀ st : List AV, ((st.map (cv ρ)).map fun v => v.category).sum ≤ 2 * st.length := by
    intro st
    induction st with
    | nil => simp
    | cons v r ih =>
      have : (cv ρ v).category ≤ 2 := by rw [isL_cat]; split <;> omega
      simp only [List.map_cons, List.sum_cons, List.length_cons]
      omega
  intro st hs
  have := h st
  omega
/-- a call that has run goes on in its caller -/
theorem run_on {p : Program} {l : Launch} {e : Env} {s : State} {m : MethodId} {args : Array Value} {below : List Frame} {meth : Method} {c : Code} {D : va_G} {dA : Nat → ClassId} {ρ : Rho} {A : Nat → Prop} {H : Heap} {locs : List Loc} {la : Array Slot} {a : Array Value} {st0 : List Value} {rest : List AV} {d1 : Nat}
    (C : Cx j p s m args meth c D dA ρ A) (hl : lv_has la (mL j) (lvp ρ 0 ls)) (hD : va_D A (wld dA ρ σ)) (hS : va_S A s.heap H locs)
    (run : va_Run p l e (rmd d1) s m args below meth c H locs 0 0 0 0 (F0 m pc la st0) (rest.map (cv ρ)) (QK D dA ρ (va_A (wld dA ρ σ) H.size) (fun r σ' => Rn d1 j (pc + 3) ls (psh r rest) σ' K) a) (va_A (wld dA ρ σ) H.size)) :
    W p l e (rmd d1) s m args below meth c H locs 0 0 (MQ below (QK D dA ρ A K) args s 0 0 A) (F0 m pc la st0) := by
  have hAA : ∀ q, va_A (wld dA ρ σ) H.size q → A q := by
    rintro q (⟨k, x, h⟩ | h)
    · exact hD.2 k _ h
    · exact C.2.2.2.2.2.2.2.2.1 q (Nat.le_trans hS.1 h)
  intro T hT X
  obtain ⟨v, st₀, t, T', L, h0, X', hL, e1, e2, ⟨⟨r, σ', hv, hKr, hP', hK', hD'⟩, hz, hk⟩, stp⟩ := run T hT X
  cases hv
  rw [h0] at hz hk
  rw [← e1] at hP' hz hk
  have G := hKr p l e s m args below meth c D dA ρ A T'.heap (locs ++ L) la C hl hP' (hD'.weaken (fun _ _ _ h => hAA _ h))
    ⟨Nat.le_trans hS.1 hz, fun q h1 h2 => by rw [hk q (Nat.lt_of_lt_of_le h1 hS.1) (fun z => h2 (hAA q z))]; exact hS.2.1 q h1 h2, fun q hq => by
      rcases List.mem_append.mp hq with h | h
      · exact hS.2.2 q h
      · exact hAA _ (hL q h)⟩
  obtain ⟨t2, a1, b1⟩ := G T' rfl X'
  refine ⟨t2, stp t2 ?_, b1⟩
  rw [← psh_map] at a1
  exact a1
theorem room_ok {d0 mx : Nat} (h : mx ≤ 40) : (rmd d0).frames + 1 ≤ (rmd (d0 + 1)).frames ∧ 8 + (mx + 11) + (rmd d0).locals ≤ (rmd (d0 + 1)).locals := by
  constructor
  · exact Nat.le_refl _
  · show 8 + (mx + 11) + 64 * d0 ≤ 64 * (d0 + 1)
    omega
theorem pre_call {s : State} {D : va_G} {dA : Nat → ClassId} {ρ : Rho} {A : Nat → Prop} {H : Heap} {locs : List Loc} {av : List AV} (hK : va_K D vwCl (tys dA) s) (hA : ∀ q, s.heap.size ≤ q → A q) (hT : ST ρ A s) (hP : va_P D vwCl (wld dA ρ σ) H) (hD : va_D A (wld dA ρ σ)) (hS : va_S A s.heap H locs) :
    FrameBlind (va_Pc (av.map (cv ρ)) (fun U => U.heap.size = H.size ∧ va_P D vwCl (wld dA ρ σ) U.heap ∧ va_K D vwCl (tys dA) U ∧ va_D (fun _ => True) (wld dA ρ σ) ∧ ST ρ (va_A (wld dA ρ σ) H.size) U)) ∧
    ∀ U : State, U.heap = H → s.WarmedH U.vm → va_Pc (av.map (cv ρ)) (fun U => U.heap.size = H.size ∧ va_P D vwCl (wld dA ρ σ) U.heap ∧ va_K D vwCl (tys dA) U ∧ va_D (fun _ => True) (wld dA ρ σ) ∧ ST ρ (va_A (wld dA ρ σ) H.size) U) (av.map (cv ρ)).toArray U := by
  refine ⟨fun a U g mk q => ?_, fun U hU hW => ⟨rfl, by rw [hU], by rw [hU]; exact hP, va_K.moved hW.alike hK, hD.weaken (fun _ _ _ _ => trivial), ?_⟩⟩
  · obtain ⟨q0, q1, qP, qK, qD, qT⟩ := q
    exact ⟨q0, q1, qP, va_K.moved (u := U) (U := U.calling g mk a) (Vm.Alike.refl U.vm) qK, qD, qT.same rfl rfl⟩
  · refine hT.go hW (fun q h1 h2 => by rw [hU]; exact hS.2.1 q h1 h2) ?_
    rintro q (⟨k, x, h⟩ | h)
    · exact hD.2 k _ h
    · exact hA q (Nat.le_trans hS.1 h)
theorem R_callS {x n : Nat} {av rest : List AV} (hn : nxt (mC j) (mB j) pc (.multianewarray x n) = some pc') (ha : av.length = n) (hr : rest.length ≤ 4) (hk : Ev d x av σ (fun r σ' => Rn (d + 1) j pc' ls (psh r rest) σ' K)) : Rn (d + 1) j pc ls (av.reverse ++ rest) σ K := by
  intro p l e s m args below meth c D dA ρ A H locs la C hl hP hD hS
  have hC := C
  obtain ⟨hx, hb, hrr, hml, hts, hown, hlk, hK, hA, hT⟩ := C
  have hM := hk l D dA ρ H.size
  simp only [nxt] at hn
  split at hn
  · cases hn
  rename_i h0
  simp only [Bool.not_eq_true', Bool.not_eq_false, Bool.and_eq_true, decide_eq_true_eq, beq_iff_eq] at h0
  obtain ⟨⟨h1, h2⟩, h3⟩ := h0
  obtain ⟨m1, m2, m3, m4, m5, m6, m7⟩ := mok_spec h1
  have hp := pre_call (av := av) hK hA hT hP hD hS
  have hstack : (F0 m pc la ((av.reverse ++ rest).map (cv ρ))).stack = (av.map (cv ρ)).reverse ++ rest.map (cv ρ) := by simp
  split at hn
  · rename_i h; cases hn
    obtain ⟨e1, g1, g2⟩ := List.any_eq_true.mp h
    simp only [Bool.and_eq_true, beq_iff_eq] at g2
    obtain ⟨⟨a1, a2⟩, a3⟩ := g2
    have hlink := hts _ (ml_in _ (List.mem_map.mpr ⟨e1, g1, rfl⟩))
    rw [a1, a2] at hlink
    exact run_on hC hl hD hS (va_runS (own := cnm (mC j)) ⟨hx, hb, hml, hown, hts⟩ hM ⟨callB_of (mP x) hts (good_tbg x h1) rfl rfl rfl (hts _ m5) hlink m3 (room_ok m4), hts _ (m6 h3)⟩ hp rfl (by simp [ha, h2]) hl.1 hstack (lv_room (st_room hr)) (dOk_spec a3) ⟨Nat.le_refl _, Nat.le_refl _⟩)
  · split at hn
    · rename_i h; cases hn
      obtain ⟨e1, g1, g2⟩ := List.any_eq_true.mp h
      simp only [Bool.and_eq_true, beq_iff_eq] at g2
      obtain ⟨⟨a1, a2⟩, a3⟩ := g2
      have hlink := hT.2.1 e1 g1
      rw [a1, a2] at hlink
      exact run_on hC hl hD hS (va_runSN (own := cnm (mC j)) ⟨hx, hb, hml, hown, hts⟩ hM ⟨va_cnB (mP x) hts (good_tbg x h1) rfl rfl rfl hlink (hts _ m5) m3 (room_ok m4), hts _ (m6 h3), trivial⟩ hp rfl (by simp [ha, h2]) hl.1 hstack (lv_room (st_room hr)) (dOk_spec a3) ⟨Nat.le_refl _, Nat.le_refl _⟩)
    · cases hn
theorem R_callV {x n i : Nat} {av rest : List AV} (hn : nxt (mC j) (mB j) pc (.invokeinterface x n) = some pc') (hc : x % 16 < 13) (hi : i < cnt σ (x % 16)) (ha : av.length = n) (hr : rest.length ≤ 4) (hk : Ev d (x / 16) (.inr (.inr (some (x % 16, i))) :: av) σ (fun r σ' => Rn (d + 1) j pc' ls (psh r rest) σ' K)) : Rn (d + 1) j pc ls (av.reverse ++ .inr (.inr (some (x % 16, i))) :: rest) σ K := by
  intro p l e s m args below meth c D dA ρ A H locs la C hl hP hD hS
  have hC := C
  obtain ⟨hx, hb, hrr, hml, hts, hown, hlk, hK, hA, hT⟩ := C
  have hM := hk l D dA ρ H.size
  simp only [nxt] at hn
  split at hn
  · cases hn
  rename_i h0
  simp only [Bool.not_eq_true', Bool.not_eq_false, Bool.and_eq_true, decide_eq_true_eq, beq_iff_eq] at h0
  obtain ⟨⟨⟨h1, h2⟩, h3⟩, h4⟩ := h0
  obtain ⟨m1, m2, m3, m4, m5, m6, m7⟩ := mok_spec h1
  have hp := pre_call (av := .inr (.inr (some (x % 16, i))) :: av) hK hA hT hP hD hS
  obtain ⟨q0, hq1, hq2⟩ := wld_at (dA := dA) (ρ := ρ) (K := x % 16) (by simp [isK, hc]) hi
  simp only [cel, if_pos hc] at hq2
  have hrec := va_recv hK hP (cl_at hc).1 hq2
  have hC2 : (mY (x / 16)).cls = cnm (x % 16) := by rw [m2, h2]
  have hstack : (F0 m pc la ((av.reverse ++ .inr (.inr (some (x % 16, i))) :: rest).map (cv ρ))).stack = (av.map (cv ρ)).reverse ++ Value.ref (ρ (x % 16) i) :: rest.map (cv ρ) := by simp [cv]
  split at hn
  · rename_i h; cases hn
    obtain ⟨e1, g1, g2⟩ := List.any_eq_true.mp h
    simp only [Bool.and_eq_true, beq_iff_eq] at g2
    obtain ⟨⟨a1, a2⟩, a3⟩ := g2
    have hlink := hts _ (ml_in _ (List.mem_map.mpr ⟨e1, g1, rfl⟩))
    rw [a1, a2] at hlink
    exact run_on hC hl hD hS (va_runV (own := cnm (mC j)) (C := (mY (x / 16)).cls) ⟨hx, hb, hml, hown, hts⟩ hM ⟨callB_of (mP (x / 16)) hts (good_tbg _ h1) rfl rfl rfl (hts _ m5) hlink m3 (room_ok m4), hts _ (m7 h4).1, hts _ (m7 h4).2⟩ ⟨hp.1, by rw [hC2]; exact hrec, hp.2⟩ rfl (by simp [ha, h3]) hl.1 hstack (lv_room (st_room hr)) (dOk_spec a3) ⟨Nat.le_refl _, Nat.le_refl _⟩)
  · split at hn
    · rename_i h; cases hn
      obtain ⟨e1, g1, g2⟩ := List.any_eq_true.mp h
      simp only [Bool.and_eq_true, beq_iff_eq] at g2
      obtain ⟨⟨a1, a2⟩, a3⟩ := g2
      have hlink := hT.2.1 e1 g1
      rw [a1, a2] at hlink
      exact run_on hC hl hD hS (va_runVN (own := cnm (mC j)) (C := (mY (x / 16)).cls) ⟨hx, hb, hml, hown, hts⟩ hM ⟨va_cnB (mP (x / 16)) hts (good_tbg _ h1) rfl rfl rfl hlink (hts _ m5) m3 (room_ok m4), hts _ (m7 h4).1, hts _ (m7 h4).2⟩ ⟨hp.1, by rw [hC2]; exact hrec, hp.2⟩ rfl (by simp [ha, h3]) hl.1 hstack (lv_room (st_room hr)) (dOk_spec a3) ⟨Nat.le_refl _, Nat.le_refl _⟩)
    · cases hn
end RULES3B
