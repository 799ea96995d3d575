/-! ar: the cells that were made, as memory -/
/-- what lies at each place -/
def ivL : List (Nat × Nat) := [(11, 0), (40, 0), (4, 0), (26, 0), (3, 4), (21, 4), (22, 4), (23, 4), (24, 4), (25, 4), (10, 0), (7, 0), (33, 0), (34, 0), (35, 0), (5, 0), (27, 0), (28, 0), (39, 0), (3, 0), (21, 0), (22, 0), (23, 0), (24, 0), (25, 0), (10, 1), (7, 1), (33, 1), (34, 1), (35, 1), (5, 1), (27, 1), (28, 1), (39, 1), (3, 1), (21, 1), (22, 1), (23, 1), (24, 1), (25, 1), (0, 0), (0, 1), (2, 0), (20, 0), (7, 4), (33, 4), (34, 4), (35, 4), (7, 5), (33, 5), (34, 5), (35, 5), (7, 6), (33, 6), (34, 6), (35, 6), (7, 7), (33, 7), (34, 7), (35, 7), (7, 8), (33, 8), (34, 8), (35, 8), (7, 9), (33, 9), (34, 9), (35, 9), (7, 10), (33, 10), (34, 10), (35, 10), (7, 11), (33, 11), (34, 11), (35, 11), (7, 12), (33, 12), (34, 12), (35, 12), (7, 13), (33, 13), (34, 13), (35, 13), (7, 14), (33, 14), (34, 14), (35, 14), (6, 0), (29, 0), (30, 0), (31, 0), (32, 0), (1, 0), (16, 0), (17, 0), (18, 0), (19, 0), (9, 0), (37, 0), (38, 0), (41, 0), (42, 0), (43, 0), (8, 0), (36, 0), (8, 1), (36, 1), (8, 2), (36, 2), (8, 3), (36, 3), (10, 2), (7, 2), (33, 2), (34, 2), (35, 2), (5, 2), (27, 2), (28, 2), (39, 2), (3, 2), (21, 2), (22, 2), (23, 2), (24, 2), (25, 2), (10, 3), (7, 3), (33, 3), (34, 3), (35, 3), (5, 3), (27, 3), (28, 3), (39, 3), (3, 3), (21, 3), (22, 3), (23, 3), (24, 3), (25, 3), (12, 0), (44, 0), (45, 0), (46, 0), (47, 0), (48, 0), (49, 0), (50, 0), (51, 0), (52, 0), (53, 0), (54, 0), (55, 0), (56, 0), (57, 0), (58, 0)]
/-- memory as the constructors leave it, the reference's bridge but for its one plank -/
def s0 : Mem := fun K i j => if K = 60 then (if i = 0 ∧ j = 0 then 5 else 0) else if K = 61 then 0 else if K = 10 ∧ j = 3 then (i : Int) else if K = 4 ∧ j = 9 then 4 else match C2[ixC K i]? with
  | some (.inl o) => (match o.2[j]? with
    | some (.inl z) => z
    | some (.inr (.inl z)) => z
    | _ => 0)
  | some (.inr a) => wI a.2.2 j
  | none => 0
def r0 (ρ : Rho) (α : Nat → Nat) : Rho := fun K i => if K < 59 then α (ixC K i) else ρ K i
def okF (K i s : Nat) (fd : Nat × Nat × Nat × Nat) (v : AV) : Bool :=
  if fd.1 = 3 then decide (fd.2.1 < 59) && eqV v (cr (ixC fd.2.1 (fd.2.2.1 * i + fd.2.2.2))) else if fd.1 = 4 then decide (fd.2.1 < 59) && eqV v (cr (ixC fd.2.1 (s0 K i s).toNat)) else if fd.1 = 1 then eqV v (cj (s0 K i s)) else eqV v (ci (s0 K i s))
def okG (K i : Nat) (l : List AV) (s : Nat) : Bool := match (fds K)[s]?, l[s]? with
  | some fd, some v => okF K i s fd v
  | _, _ => false
def okO (K i : Nat) (l : List AV) : Bool := l.length == (fds K).length && (List.range (fds K).length).all (okG K i l)
def okE (K j : Nat) (w : List (Nat × AV)) : Bool := match wR (fun x => x) w j with
  | some x => x == ixC (arf K).1 ((arf K).2 + j)
  | none => false
def okA (K i : Nat) (a : Nat × Nat × List (Nat × AV)) : Bool := a.1 == aet K && a.2.1 == alen s0 K i && (decide (aet K < 4) || (decide ((arf K).1 < 59) && (List.range a.2.1).all (fun j => okE K j a.2.2)))
def okI (K i : Nat) : Bool := match ivL[ixC K i]? with
  | some q => q.1 == K && q.2 == i
  | none => false
def okK (K i : Nat) : Bool := match C2[ixC K i]? with
  | some (.inl o) => decide (K < 13) && o.1 == K && okO K i o.2
  | some (.inr a) => !decide (K < 13) && okA K i a
  | none => false
set_option maxRecDepth 100000 in
theorem all_ok : (dom s0).all (fun q => okK q.1 q.2 && okI q.1 q.2) = true := by decide +kernel
theorem r0_lo {ρ : Rho} {α : Nat → Nat} {K i : Nat} (h : K < 59) : r0 ρ α K i = α (ixC K i) := if_pos h
theorem r0_hi {ρ : Rho} {α : Nat → Nat} {K i : Nat} (h : 59 ≤ K) : r0 ρ α K i = ρ K i := if_neg (by omega)
theorem okF_cv {ρ : Rho} {α : Nat → Nat} {K i s : Nat} {fd : Nat × Nat × Nat × Nat} {v : AV} (h : okF K i s fd v = true) : fvl (r0 ρ α) s0 K i s fd = cv (rA α) v := by
  unfold okF at h
  unfold fvl
  by_cases c3 : fd.1 = 3
  · rw [if_pos c3] at h ⊢
    simp only [Bool.and_eq_true, decide_eq_true_eq] at h
    rw [eqV_of h.2, r0_lo h.1]
    rfl
  · rw [if_neg c3] at h ⊢
    by_cases c4 : fd.1 = 4
    · rw [if_pos c4] at h ⊢
      simp only [Bool.and_eq_true, decide_eq_true_eq] at h
      rw [eqV_of h.2, r0_lo h.1]
      rfl
    · rw [if_neg c4] at h ⊢
      by_cases c1 : fd.1 = 1
      · rw [if_pos c1] at h ⊢
        rw [eqV_of h]
        rfl
      · rw [if_neg c1] at h ⊢
        rw [eqV_of h]
        rfl
theorem okO_cv {ρ : Rho} {α : Nat → Nat} {K i : Nat} {l : List AV} (h : okO K i l = true) : (fds K).mapIdx (fun s fd => fvl (r0 ρ α) s0 K i s fd) = l.map (cv (rA α)) := by
  simp only [okO, Bool.and_eq_true, beq_iff_eq] at h
  obtain ⟨h1, h2⟩ := h
  apply List.ext_getElem?
  intro n
  rw [List.getElem?_mapIdx, List.getElem?_map]
  by_cases hn : n < (fds K).length
  · have h3 := List.all_eq_true.mp h2 n (List.mem_range.mpr hn)
    unfold okG at h3
    rw [List.getElem?_eq_getElem hn, List.getElem?_eq_getElem (show n < l.length by omega)] at h3 ⊢
    simp only [Option.map_some]
    rw [okF_cv h3]
  · rw [List.getElem?_eq_none (by omega), List.getElem?_eq_none (by omega)]
    rfl
theorem wR_map {α : Nat → Nat} {j : Nat} : ∀ {w : List (Nat × AV)}, wR α w j = (wR (fun x => x) w j).map α := by
  intro w
  induction w with
  | nil => rfl
  | cons q r ih =>
    unfold wR
    by_cases c : j = q.1
    · rw [if_pos c, if_pos c]
      rcases q.2 with z | z | _ | x <;> rfl
    · rw [if_neg c, if_neg c]
      exact ih
theorem s0_arr {K i j : Nat} {a : Nat × Nat × List (Nat × AV)} (h : C2[ixC K i]? = some (.inr a)) (h1 : ¬ K < 13) (h2 : K < 59) : s0 K i j = wI a.2.2 j := by
  unfold s0
  rw [if_neg (by omega), if_neg (by omega), if_neg (by omega), if_neg (by omega), h]
theorem arrV_c {cI : ClassId} {N : Nat} {f g : Nat → Value} (h : ∀ j, j < N → f j = g j) : arrV cI N f = arrV cI N g := by
  unfold arrV
  have : (fun j : Fin N => f j.val) = (fun j : Fin N => g j.val) := funext (fun j => h j.val j.isLt)
  rw [this]
theorem okA_c {dA : Nat → ClassId} {ρ : Rho} {α : Nat → Nat} {K i : Nat} {a : Nat × Nat × List (Nat × AV)} (hc : C2[ixC K i]? = some (.inr a)) (h13 : ¬ K < 13) (h59 : K < 59) (h : okA K i a = true) : vp_cell (dA (aet K)) (alen s0 K i, arc (r0 ρ α) s0 K i) = vp_cell (dA a.1) (a.2.1, acC α a.1 a.2.2) := by
  simp only [okA, Bool.and_eq_true, Bool.or_eq_true, beq_iff_eq, decide_eq_true_eq] at h
  obtain ⟨⟨h1, h2⟩, h3⟩ := h
  have e : ∀ j, s0 K i j = wI a.2.2 j := fun j => s0_arr hc h13 h59
  rw [h1, ← h2]
  unfold arc acC
  by_cases c3 : aet K = 3
  · rw [if_pos c3, if_pos c3]
    simp only [e]
  · rw [if_neg c3, if_neg c3]
    by_cases c4 : aet K < 3
    · rw [if_pos c4, if_pos c4]
      simp only [e]
    · rw [if_neg c4, if_neg c4]
      rcases h3 with h3 | ⟨h3, h4⟩
      · omega
      · show arrV (dA (aet K)) a.2.1 (fun j => va_rf (some (r0 ρ α (arf K).1 ((arf K).2 + j)))) = arrV (dA (aet K)) a.2.1 (fun j => va_rf (wR α a.2.2 j))
        refine arrV_c (fun j hj => ?_)
        have h5 := List.all_eq_true.mp h4 j (List.mem_range.mpr hj)
        unfold okE at h5
        have h6 : wR α a.2.2 j = some (α (ixC (arf K).1 ((arf K).2 + j))) := by
          rw [wR_map]
          cases hx : wR (fun x => x) a.2.2 j with
          | none => rw [hx] at h5; cases h5
          | some x =>
            rw [hx] at h5
            simp only [beq_iff_eq] at h5
            rw [h5]
            rfl
        show va_rf (some (r0 ρ α (arf K).1 ((arf K).2 + j))) = va_rf (wR α a.2.2 j)
        rw [h6, r0_lo h3]
theorem made_wld {D : va_G} {dA : Nat → ClassId} {ρ : Rho} {α : Nat → Nat} {A : Nat → Prop} {H : Heap} (hP : va_P D vwCl (wrl dA α C2) H) (hD : va_D A (wrl dA α C2)) : va_P D vwCl (wld dA (r0 ρ α) s0) H ∧ va_D A (wld dA (r0 ρ α) s0) := by
  have ok : ∀ q ∈ dom s0, okK q.1 q.2 = true ∧ okI q.1 q.2 = true := fun q hq => by
    have := List.all_eq_true.mp all_ok q hq
    simpa only [Bool.and_eq_true] using this
  have inC : ∀ q ∈ dom s0, ∃ c, C2[ixC q.1 q.2]? = some c := fun q hq => by
    have h := (ok q hq).1
    unfold okK at h
    cases hc : C2[ixC q.1 q.2]? with
    | none => rw [hc] at h; cases h
    | some c => exact ⟨c, rfl⟩
  refine ⟨wldP_of (fun q hq => ?_), wldD_of (fun q hq q2 hq2 e => ?_) (fun q hq => ?_)⟩
  · obtain ⟨K, i⟩ := q
    have h59 : K < 59 := dom_lt hq
    have h := (ok _ hq).1
    show va_at D vwCl (r0 ρ α K i, cel dA (r0 ρ α) s0 K i) H
    have h : okK K i = true := h
    unfold okK at h
    cases hc : C2[ixC K i]? with
    | none => rw [hc] at h; cases h
    | some c =>
      rw [hc] at h
      have g := hP _ _ (wrl_at (dA := dA) (α := α) hc)
      rw [r0_lo h59]
      rcases c with o | a
      · simp only [Bool.and_eq_true, beq_iff_eq, decide_eq_true_eq] at h
        obtain ⟨⟨h1, h2⟩, h3⟩ := h
        unfold cel
        rw [if_pos h1, okO_cv h3]
        have g : va_at D vwCl (α (ixC K i), .inr (o.1, o.2.map (cv (rA α)))) H := g
        rw [h2] at g
        exact g
      · simp only [Bool.and_eq_true, Bool.not_eq_true', decide_eq_false_iff_not] at h
        obtain ⟨h1, h3⟩ := h
        unfold cel
        rw [if_neg h1]
        have g : H[α (ixC K i)]? = some (vp_cell (dA a.1) (a.2.1, acC α a.1 a.2.2)) := g
        show H[α (ixC K i)]? = some (vp_cell (dA (aet K)) (alen s0 K i, arc (r0 ρ α) s0 K i))
        rw [okA_c hc h1 h59 h3]
        exact g
  · obtain ⟨c, hc⟩ := inC q hq
    obtain ⟨c2, hc2⟩ := inC q2 hq2
    rw [r0_lo (dom_lt hq), r0_lo (dom_lt hq2)] at e
    have hx := hD.1 _ _ _ _ (wrl_at (dA := dA) (α := α) hc) (wrl_at (dA := dA) (α := α) hc2) e
    have i1 := (ok q hq).2
    have i2 := (ok q2 hq2).2
    unfold okI at i1 i2
    rw [hx] at i1
    cases hv : ivL[ixC q2.1 q2.2]? with
    | none => rw [hv] at i1; cases i1
    | some z =>
      rw [hv] at i1 i2
      simp only [Bool.and_eq_true, beq_iff_eq] at i1 i2
      exact Prod.ext (i1.1.symm.trans i2.1) (i1.2.symm.trans i2.2)
  · obtain ⟨c, hc⟩ := inC q hq
    rw [r0_lo (dom_lt hq)]
    exact hD.2 _ _ (wrl_at (dA := dA) (α := α) hc)
