/-! ai: both: trays, the tape -/
section TRAYS9
variable {d : Nat} {M M' : Int} {σ σ1 σ2 : Mem}
theorem TI_oth (h : TI M σ) (hM : M ≤ M') (x : eqx [8, 11, 12, 27, 28, 36, 39, 40, 46, 48, 49, 50, 51, 52, 53, 54, 55, 56, 57, 58] σ σ2) (ht : TRS σ2) (hp : TAP σ2) : TI M' σ2 := by
  obtain ⟨⟨v1, v2, v3, r1, r2, r3, r4⟩, h2, -, -, h5⟩ := h
  have e44 := x 44 (by decide)
  have hP2 : PI σ2 (σ 44 0) := PI_i (x.i (L2 := [8, 11, 12, 27, 28, 36, 39, 40, 46, 48, 49, 50, 51, 52, 53, 54, 55, 56, 57, 58]) (M := []) (w := 0) (fun _ x => x)) (by decide) (by decide) (Or.inl (by decide)) v3
  refine ⟨LV_of (wst_x x (by decide)) (pls_x x (by decide)) v1 v2 hP2 (fun j _ => by rw [e44]) (fun j _ _ => by rw [e44]) (by rw [e44]) (by rw [e44]) (by rw [e44]; exact r2) (by rw [e44]; omega) (fun k hk => ?_), IMG_x h2 hM (x 43 (by decide)) (x 45 (by decide)) (fun j _ => by rw [e44]) (pls_x x (by decide)) (wst_x x (by decide)) (wst_x x (by decide)), ht, hp, PPN_x h5 (x 60 (by decide)) (x 4 (by decide))⟩
  rw [e44] at hk ⊢
  obtain ⟨g1, g2⟩ := r4 k hk
  exact ⟨g1, by omega⟩
theorem rft.w (h : rft σ σ2) (e56 : σ2 56 = σ 56) (e57 : σ2 57 = σ 57) (e58 : σ2 58 = σ 58) : rfw σ σ2 ∧ σ2 44 0 = σ 44 0 := by
  refine ⟨⟨fun K hK => ?_, h.2⟩, by rw [h.1 44 (by decide)]⟩
  by_cases c1 : K = 56
  · rw [c1, e56]
  · by_cases c2 : K = 57
    · rw [c2, e57]
    · by_cases c3 : K = 58
      · rw [c3, e58]
      · refine h.1 K (fun x => hK ?_)
        simp only [List.mem_cons, List.not_mem_nil, or_false] at x ⊢
        omega
theorem TAP_k {h12 : σ1 12 = σ 12} (h : TAP σ) (hk : k0 σ1 σ2) (e11 : σ2 11 = σ 11) (e40 : σ2 40 = σ 40) (e46 : σ2 46 = σ 46) (e4 : σ2 4 = σ 4) : TAP σ2 := TAP_x h (by rw [hk.2.1, h12]) (by rw [hk.2.2.1, h12]) (by rw [hk.2.2.2, h12]) e11 e40 e46 e4
theorem b_numbers {t s n : Int} (ht : in32 t) (hs : in32 s) (hn : in32 n) (h : TI M σ) (hM : M ≤ M') : Bth (d + 120) 153 290 [bo, .inl t, .inl s, .inl n] [mo, .inl t, .inl s, .inl n] σ (TI M') := by
  obtain ⟨-, -, tr, ta, -⟩ := id h
  refine c_numbers ht hs hn (fun w => ?_) (fun w w2 => ?_) (fun w w2 σ1 x1 g1 g2 g3 g4 => ?_)
  · exact q_numbers ht hs hn (fun _ σ2 x2 e1 e2 e3 => ⟨_, rfl, rfl, TI_ask h hM eqi.rf (rft.w x2 e1 e2 e3).1 (rft.w x2 e1 e2 e3).2⟩) (fun y => absurd y w) (fun y => absurd y w)
  · exact q_numbers ht hs hn (fun y => absurd w y) (fun _ _ σ2 x2 e1 e2 e3 => ⟨_, rfl, rfl, TI_ask h hM eqi.rf (rft.w x2 e1 e2 e3).1 (rft.w x2 e1 e2 e3).2⟩) (fun _ y => absurd y w2)
  · refine q_numbers ht hs hn (fun y => absurd w y) (fun _ y => absurd w2 y) (fun _ _ σ2 x2 k1 k2 k3 => ⟨_, rfl, rfl, ?_⟩)
    have f : ∀ K : Nat, ¬ (K = 8 ∨ K = 36) → σ1 K = σ K := fun K hK => x1.k (by simp) (by simp; omega)
    have xx : eqx [8, 11, 12, 27, 28, 36, 39, 40, 46, 48, 49, 50, 51, 52, 53, 54, 55, 56, 57, 58] σ σ2 := fun K hK => by
      simp only [List.mem_cons, List.not_mem_nil, or_false] at hK
      rw [x2.1 K (by simp only [List.mem_cons, List.not_mem_nil, or_false]; omega), f K (by omega)]
    have f2 : ∀ K : Nat, ¬ (K = 8 ∨ K = 36 ∨ K = 12 ∨ K = 48 ∨ K = 49 ∨ K = 56 ∨ K = 57 ∨ K = 58) → σ2 K = σ K := fun K hK => by
      rw [x2.1 K (by simp only [List.mem_cons, List.not_mem_nil, or_false]; omega), f K (by omega)]
    refine TI_oth h hM xx (fun i hi => ?_) (TAP_k (h12 := f 12 (by decide)) ta x2.2 (f2 11 (by decide)) (f2 40 (by decide)) (f2 46 (by decide)) (f2 4 (by decide)))
    obtain ⟨h1, h2, h3, h4, h5, h6, h7, h8, h9⟩ := tr i hi
    rw [x2.1 8 (by decide), x2.1 36 (by decide), k1, k2, f 56 (by decide), f 57 (by decide)]
    rw [f 58 (by decide)] at k3
    by_cases c : i = t.toNat
    · subst c
      have v56 : vu (σ 56 0) t.toNat s t.toNat = s := by unfold vu; rw [if_pos rfl]
      have v57 : vu (σ 57 0) t.toNat n t.toNat = n := by unfold vu; rw [if_pos rfl]
      rw [v56, v57, g1, g2, g3]
      refine ⟨Or.inl rfl, w.2, w2, by omega, by omega, rfl, fun _ => rfl, fun k hk => ⟨by rw [g4 k hk]; exact ⟨by decide, by decide⟩, ?_⟩, fun k hk => ?_⟩
      · rw [k3]
        split
        · exact ⟨by decide, by decide⟩
        · exact (h8 k hk).2
      · rw [g4 k (by omega), k3, if_pos (by omega)]
    · have v56 : vu (σ 56 0) t.toNat s i = σ 56 0 i := vu_ne c
      have v57 : vu (σ 57 0) t.toNat n i = σ 57 0 i := vu_ne c
      have e8 : σ1 8 i = σ 8 i := x1 8 i (by simp) (fun x => c x.2)
      have e36 : σ1 36 i = σ 36 i := x1 36 i (by simp) (fun x => c x.2)
      have e58 : ∀ k : Nat, k < 40 → σ2 58 0 (40 * i + k) = σ 58 0 (40 * i + k) := fun k hk => by rw [k3, if_neg (by omega)]
      rw [v56, v57, e8, e36]
      exact ⟨h1, h2, h3, h4, h5, h6, h7, fun k hk => by rw [e58 k hk]; exact h8 k hk, fun k hk => by rw [e58 k (by omega)]; exact h9 k hk⟩
theorem cutF_64 {v s : Int} (h : in64 v) : in64 (cutF v s) := by
  have b1 := Int.le_bmod (x := v) (m := 256) (by decide)
  have b2 := Int.bmod_lt (x := v) (m := 256) (by decide)
  have b3 := Int.le_bmod (x := v) (m := 65536) (by decide)
  have b4 := Int.bmod_lt (x := v) (m := 65536) (by decide)
  have b5 := Int.le_bmod (x := v) (m := 4294967296) (by decide)
  have b6 := Int.bmod_lt (x := v) (m := 4294967296) (by decide)
  unfold in64 at h ⊢
  unfold cutF
  split
  · omega
  · split
    · omega
    · split
      · omega
      · exact h
/-- numbers put into a tray of both -/
theorem TRS_put {t : Int} {p q : Nat → Int} (h : TRS σ) (ht : 0 ≤ t ∧ t < 4) (e8 : σ2 8 = σ 8) (e56 : σ2 56 = σ 56) (e57 : σ2 57 = σ 57) (e36 : ∀ i : Nat, ¬ i = t.toNat → σ2 36 i = σ 36 i) (f36 : σ2 36 t.toNat = p) (f58 : ∀ j : Nat, ¬ (40 * t ≤ (j : Int) ∧ (j : Int) < 40 * t + 40) → σ2 58 0 j = σ 58 0 j) (g58 : ∀ k : Nat, k < 40 → σ2 58 0 (40 * t.toNat + k) = q k) (hpq : ∀ k : Nat, (k : Int) < σ 8 t.toNat 3 → p k = q k) (h64 : ∀ k : Nat, k < 40 → in64 (p k) ∧ in64 (q k)) : TRS σ2 := by
  intro i hi
  obtain ⟨h1, h2, h3, h4, h5, h6, h7, h8, h9⟩ := h i hi
  rw [e8, e56, e57]
  refine ⟨h1, h2, h3, h4, h5, h6, h7, fun k hk => ?_, fun k hk => ?_⟩
  · by_cases c : i = t.toNat
    · subst c
      rw [f36, g58 k hk]
      exact h64 k hk
    · rw [e36 i c, f58 _ (by omega)]
      exact h8 k hk
  · by_cases c : i = t.toNat
    · subst c
      rw [f36, g58 k (by omega)]
      exact hpq k hk
    · rw [e36 i c, f58 _ (by omega)]
      exact h9 k hk
theorem b_write {t i v : Int} (ht : in32 t) (hi : in32 i) (hv : in64 v) (h : TI M σ) (hM : M ≤ M') : BthL (d + 120) 154 291 [bo, .inl t, .inl i, .inr (.inl v)] [mo, .inl t, .inl i, .inr (.inl v)] σ (TI M') := by
  obtain ⟨-, -, tr, ta, -⟩ := id h
  obtain ⟨q1, q2⟩ := tr.r
  have c1 : ∀ i : Nat, i < 4 → (σ 8 i 1 = 0 ∨ σ 8 i 1 = 1) ∧ (0 ≤ σ 8 i 2 ∧ σ 8 i 2 ≤ 3) ∧ 0 ≤ σ 8 i 3 ∧ σ 8 i 3 ≤ 40 := fun i hi => ⟨(tr i hi).1, (tr i hi).2.1, (tr i hi).2.2.1⟩
  refine c_write ht hi c1 (fun w => ?_) (fun w e => ?_) (fun w e n1 => ?_) (fun w e n1 => ?_)
  · exact q_write ht hi q1 (fun _ σ2 x2 e1 e2 e3 => ⟨_, rfl, rfl, TI_ask h hM eqi.rf (rft.w x2 e1 e2 e3).1 (rft.w x2 e1 e2 e3).2⟩) (fun y => by omega) (fun y => by omega) (fun y => by omega)
  · obtain ⟨t1, t2, t3, t4, t5, t6⟩ := tr.e w
    exact q_write ht hi q1 (fun y => by omega) (fun _ _ σ2 x2 e1 e2 e3 => ⟨_, rfl, rfl, TI_ask h hM eqi.rf (rft.w x2 e1 e2 e3).1 (rft.w x2 e1 e2 e3).2⟩) (fun _ y => absurd (t2 e) y) (fun _ y => absurd (t2 e) y)
  · obtain ⟨t1, t2, t3, t4, t5, t6⟩ := tr.e w
    exact q_write ht hi q1 (fun y => by omega) (fun _ y => absurd y (t3 e)) (fun _ _ _ σ2 x2 e1 e2 e3 => ⟨_, rfl, rfl, TI_ask h hM eqi.rf (rft.w x2 e1 e2 e3).1 (rft.w x2 e1 e2 e3).2⟩) (fun _ _ y => by omega)
  · obtain ⟨t1, t2, t3, t4, t5, t6⟩ := tr.e w
    generalize hσ1 : mu σ 36 t.toNat i.toNat (cutF v (σ 8 t.toNat 2)) = σ1
    have f : ∀ K : Nat, ¬ K = 36 → σ1 K = σ K := fun K hK => by rw [← hσ1, mu_k hK]
    refine q_write ht hi (by rw [f 56 (by decide), f 57 (by decide)]; exact q1) (fun y => by omega) (fun _ y => absurd (by rw [f 56 (by decide)] at y; exact y) (t3 e)) (fun _ _ y => by rw [f 57 (by decide)] at y; omega) (fun _ _ _ σ2 x2 e1 e2 e3 => ⟨_, rfl, by rw [f 56 (by decide), t4 e], ?_⟩)
    rw [f 56 (by decide)] at e1 e3
    rw [f 57 (by decide)] at e2
    rw [f 58 (by decide), t4 e] at e3
    have f2 : ∀ K : Nat, ¬ (K = 36 ∨ K = 12 ∨ K = 48 ∨ K = 49 ∨ K = 56 ∨ K = 57 ∨ K = 58) → σ2 K = σ K := fun K hK => by
      rw [x2.1 K (by simp only [List.mem_cons, List.not_mem_nil, or_false]; omega), f K (by omega)]
    have xx : eqx [8, 11, 12, 27, 28, 36, 39, 40, 46, 48, 49, 50, 51, 52, 53, 54, 55, 56, 57, 58] σ σ2 := fun K hK => by
      simp only [List.mem_cons, List.not_mem_nil, or_false] at hK
      exact f2 K (by omega)
    have e36 : σ2 36 = σ1 36 := x2.1 36 (by decide)
    have g8 := (tr t.toNat (by omega)).2.2.2.2.2.2.2.1
    refine TI_oth h hM xx (TRS_put (t := t) (p := vu (σ 36 t.toNat) i.toNat (cutF v (σ 8 t.toNat 2))) (q := fun k => if k = i.toNat then cutF v (σ 8 t.toNat 2) else σ 58 0 (40 * t.toNat + k)) tr w (f2 8 (by decide)) e1 e2 (fun j hj => ?_) ?_ (fun j hj => ?_) (fun k hk => ?_) (fun k hk => ?_) (fun k hk => ?_)) (TAP_k (h12 := f 12 (by decide)) ta x2.2 (f2 11 (by decide)) (f2 40 (by decide)) (f2 46 (by decide)) (f2 4 (by decide)))
    · rw [e36, ← hσ1, mu_row (by omega)]
    · rw [e36, ← hσ1]
      funext j
      rw [mu_at]
      rfl
    · rw [e3, vu_ne (by omega)]
    · rw [e3]
      unfold vu
      by_cases c : k = i.toNat
      · rw [if_pos (by omega), if_pos c]
      · rw [if_neg (by omega), if_neg c]
    · unfold vu
      by_cases c : k = i.toNat
      · rw [if_pos c, if_pos c]
      · rw [if_neg c, if_neg c]
        have := t5 (k : Int) (by omega) (by omega)
        rw [Int.toNat_natCast, show (40 * t + (k : Int)).toNat = 40 * t.toNat + k by omega] at this
        exact this
    · unfold vu
      by_cases c : k = i.toNat
      · rw [if_pos c, if_pos c]
        exact ⟨cutF_64 hv, cutF_64 hv⟩
      · rw [if_neg c, if_neg c]
        exact g8 k hk
theorem b_lists {t : Int} (ht : in32 t) (h : TI M σ) (hM : M ≤ M') : Bth (d + 120) 155 293 [bo, .inl t] [mo, .inl t] σ (TI M') := by
  obtain ⟨⟨v1, v2, v3, r1, r2, r3, r4⟩, -, tr, ta, -⟩ := id h
  obtain ⟨q1, q2⟩ := tr.r
  have c1 : ∀ i : Nat, i < 4 → (σ 8 i 1 = 0 ∨ σ 8 i 1 = 1) ∧ (0 ≤ σ 8 i 2 ∧ σ 8 i 2 ≤ 3) ∧ 0 ≤ σ 8 i 3 ∧ σ 8 i 3 ≤ 40 := fun i hi => ⟨(tr i hi).1, (tr i hi).2.1, (tr i hi).2.2.1⟩
  refine c_lists ht c1 v2 (fun w => ?_) (fun w e => ?_) (fun w e σ1 x1 g1 => ?_)
  · exact q_lists ht q1 r1 r2 (fun _ σ2 x2 e1 e2 e3 => ⟨_, rfl, rfl, TI_ask h hM eqi.rf (rft.w x2 e1 e2 e3).1 (rft.w x2 e1 e2 e3).2⟩) (fun y => by omega) (fun y => by omega)
  · obtain ⟨t1, t2, t3, t4, t5, t6⟩ := tr.e w
    exact q_lists ht q1 r1 r2 (fun y => by omega) (fun _ _ σ2 x2 e1 e2 e3 => ⟨_, rfl, rfl, TI_ask h hM eqi.rf (rft.w x2 e1 e2 e3).1 (rft.w x2 e1 e2 e3).2⟩) (fun _ y => absurd (t2 e) y)
  · obtain ⟨t1, t2, t3, t4, t5, t6⟩ := tr.e w
    have f : ∀ K : Nat, ¬ (K = 27 ∨ K = 28 ∨ K = 39 ∨ K = 36) → σ1 K = σ K := fun K hK => x1.k (by simp only [List.mem_cons, List.not_mem_nil, or_false]; omega) (by simp only [List.mem_cons, List.not_mem_nil, or_false]; omega)
    have e44 := f 44 (by decide)
    refine q_lists ht (by rw [f 56 (by decide), f 57 (by decide)]; exact q1) (by rw [e44]; exact r1) (by rw [e44]; exact r2) (fun y => by omega) (fun _ y => absurd (by rw [f 56 (by decide)] at y; exact y) (t3 e)) (fun _ _ σ2 x2 e1 e2 e3 => ⟨_, rfl, by rw [e44, f 57 (by decide), t1, v1], ?_⟩)
    rw [e44, f 56 (by decide), f 57 (by decide), f 58 (by decide), t1, t4 e] at e3
    rw [v1] at g1
    rw [f 56 (by decide)] at e1
    rw [f 57 (by decide)] at e2
    have f2 : ∀ K : Nat, ¬ (K = 27 ∨ K = 28 ∨ K = 39 ∨ K = 36 ∨ K = 12 ∨ K = 48 ∨ K = 49 ∨ K = 56 ∨ K = 57 ∨ K = 58) → σ2 K = σ K := fun K hK => by
      rw [x2.1 K (by simp only [List.mem_cons, List.not_mem_nil, or_false]; omega), f K (by omega)]
    have xx : eqx [8, 11, 12, 27, 28, 36, 39, 40, 46, 48, 49, 50, 51, 52, 53, 54, 55, 56, 57, 58] σ σ2 := fun K hK => by
      simp only [List.mem_cons, List.not_mem_nil, or_false] at hK
      exact f2 K (by omega)
    have e36 : σ2 36 = σ1 36 := x2.1 36 (by decide)
    have g8 := (tr t.toNat (by omega)).2.2.2.2.2.2.2.1
    have hm : imin (σ 44 0 2) (σ 8 t.toNat 3) ≤ σ 8 t.toNat 3 ∧ imin (σ 44 0 2) (σ 8 t.toNat 3) ≤ σ 44 0 2 := by
      unfold imin
      split <;> omega
    have hP := r1.P
    generalize imin (σ 44 0 2) (σ 8 t.toNat 3) = Z at *
    have w64 : ∀ k : Nat, (k : Int) < Z → in64 (cutF (wgt (σ 44 0) (lawR (σ 44 0) 0) (k : Int)) (σ 8 t.toNat 2)) := fun k hk => by
      have := wgt_le (lw := lawR (σ 44 0) 0) r1 (p := (k : Int)) ⟨by omega, by omega⟩
      exact cutF_64 ⟨by omega, by omega⟩
    refine TI_oth h hM xx (TRS_put (t := t) (p := fun k => if (k : Int) < Z then cutF (wgt (σ 44 0) (lawR (σ 44 0) 0) (k : Int)) (σ 8 t.toNat 2) else σ 36 t.toNat k) (q := fun k => if (k : Int) < Z then cutF (wgt (σ 44 0) (lawR (σ 44 0) 0) (k : Int)) (σ 8 t.toNat 2) else σ 58 0 (40 * t.toNat + k)) tr w (f2 8 (by decide)) e1 e2 (fun j hj => ?_) ?_ (fun j hj => ?_) (fun k hk => ?_) (fun k hk => ?_) (fun k hk => ?_)) (TAP_k (h12 := f 12 (by decide)) ta x2.2 (f2 11 (by decide)) (f2 40 (by decide)) (f2 46 (by decide)) (f2 4 (by decide)))
    · rw [e36, x1 36 j (by simp) (fun x => hj x.2)]
    · rw [e36]
      funext j
      exact g1 j
    · rw [e3, if_neg (by omega)]
    · rw [e3]
      by_cases c : (k : Int) < Z
      · rw [if_pos (by omega), if_pos c, show ((40 * t.toNat + k : Nat) : Int) - 40 * t = (k : Int) by omega]
      · rw [if_neg (by omega), if_neg c]
    · by_cases c : (k : Int) < Z
      · simp only [if_pos c]
      · simp only [if_neg c]
        have := t5 (k : Int) (by omega) (by omega)
        rw [Int.toNat_natCast, show (40 * t + (k : Int)).toNat = 40 * t.toNat + k by omega] at this
        exact this
    · by_cases c : (k : Int) < Z
      · simp only [if_pos c]
        exact ⟨w64 k c, w64 k c⟩
      · simp only [if_neg c]
        exact g8 k hk
theorem b_feed {v1 v2 v3 v4 v5 : Int} (h1 : in32 v1) (h2 : in32 v2) (h3 : in32 v3) (h4 : in32 v4) (h5 : in32 v5) (h : TI M σ) (hM : M ≤ M') : Bth (d + 120) 106 160 [bo, .inl v1, .inl v2, .inl v3, .inl v4, .inl v5] [mo, .inl v1, .inl v2, .inl v3, .inl v4, .inl v5] σ (TI M') := by
  obtain ⟨-, -, tr, ta, -⟩ := id h
  obtain ⟨a1, a2, a3, a4, a5⟩ := id ta
  refine c_feed (T := σ 11 0 13) h1 h2 h3 h4 h5 rfl (by rw [a2]; exact a1) (fun w => ?_) (fun w σ1 x1 g1 g2 => ?_)
  · exact q_feed (T := σ 12 0 5) h1 h2 h3 h4 h5 rfl a1 (fun _ σ2 x2 e2 => ⟨_, rfl, rfl, TI_ask h hM eqi.rf x2 (by rw [e2])⟩) (fun y => by omega)
  · have e12 := x1 12 (by decide)
    refine q_feed (T := σ 12 0 5) h1 h2 h3 h4 h5 (by rw [e12]) a1 (fun y => by omega) (fun _ σ2 x2 k1 k2 k3 k4 => ⟨_, rfl, by rw [a2], ?_⟩)
    rw [x1 46 (by decide)] at k4
    rw [e12] at k1 k2
    rw [a2] at g1 g2
    have f2 : ∀ K : Nat, ¬ (K = 11 ∨ K = 40 ∨ K = 12 ∨ K = 46) → σ2 K = σ K := fun K hK => by
      rw [x2 K (by simp only [List.mem_cons, List.not_mem_nil, or_false]; omega), x1 K (by simp only [List.mem_cons, List.not_mem_nil, or_false]; omega)]
    refine TI_oth h hM (fun K hK => ?_) (TRS_x tr (f2 8 (by decide)) (f2 36 (by decide)) (f2 56 (by decide)) (f2 57 (by decide)) (f2 58 (by decide))) ⟨by omega, ?_, fun j hj => ?_, ?_, ?_⟩
    · simp only [List.mem_cons, List.not_mem_nil, or_false] at hK
      exact f2 K (by omega)
    · rw [x2 11 (by decide), g1, k3]
    · rw [k3] at hj
      rw [x2 40 (by decide), g2, k4]
      by_cases c : σ 12 0 5 ≤ (j : Int)
      · rw [if_pos (by omega), if_pos (by omega)]
        exact ⟨rfl, bt_b _ _⟩
      · rw [if_neg (by omega), if_neg (by omega)]
        exact a3 j (by omega)
    · rw [f2 4 (by decide), k1, a4]
    · rw [f2 4 (by decide), k2, a5]
end TRAYS9
