/-! aj: both: images, a bridge told -/
section IMG9
variable {d : Nat} {M M' : Int} {σ σ1 σ2 : Mem}
theorem b_image {i : Int} (hi : in32 i) (h : TI M σ) (hM : M ≤ M') : Bth (d + 120) 156 294 [bo, .inl i] [mo, .inl i] σ (TI M') := by
  obtain ⟨⟨v1, v2, v3, r1, r2, r3, r4⟩, im, tr, ta, pn⟩ := id h
  refine c_image hi v2 (fun w => ?_) (fun w σ0 x0 g0 i0 => ?_)
  · exact q_image hi (fun _ σ2 x2 e1 e2 => ⟨_, rfl, rfl, TI_ask h hM eqi.rf ⟨fun K hK => by
      by_cases c : K = 45
      · rw [c, e2]
      · exact x2.1 K (fun y => hK (by simp only [List.mem_cons, List.not_mem_nil, or_false] at y ⊢; omega)), x2.2⟩ (by rw [e1])⟩) (fun y => absurd y w)
  · generalize hσ1 : mu σ0 43 0 i.toNat 1 = σ1
    have f0 : ∀ K n : Nat, ¬ ((K = 7 ∨ K = 10 ∨ K = 33 ∨ K = 34 ∨ K = 35) ∧ n = 2 + i.toNat) → σ0 K n = σ K n := fun K n hK => x0 K n (by simp) (by simp only [List.mem_cons, List.not_mem_nil, or_false]; omega)
    have f1 : ∀ K n : Nat, ¬ (K = 43 ∨ ((K = 7 ∨ K = 10 ∨ K = 33 ∨ K = 34 ∨ K = 35) ∧ n = 2 + i.toNat)) → σ1 K n = σ K n := fun K n hK => by rw [← hσ1, mu_row (by omega), f0 K n (by omega)]
    refine q_image hi (fun y => absurd w y) (fun _ σ2 x2 k1 k2 => ⟨_, rfl, rfl, ?_⟩)
    have e44 : σ1 44 0 = σ 44 0 := f1 44 0 (by omega)
    have e45 : σ1 45 0 = σ 45 0 := f1 45 0 (by omega)
    rw [e44] at k1
    rw [e45] at k2
    have f2 : ∀ K n : Nat, ¬ (K = 43 ∨ K = 12 ∨ K = 44 ∨ K = 45 ∨ ((K = 7 ∨ K = 10 ∨ K = 33 ∨ K = 34 ∨ K = 35) ∧ n = 2 + i.toNat)) → σ2 K n = σ K n := fun K n hK => by
      rw [x2.1 K (by simp only [List.mem_cons, List.not_mem_nil, or_false]; omega), f1 K n (by omega)]
    have f3 : ∀ K : Nat, ¬ (K = 43 ∨ K = 12 ∨ K = 44 ∨ K = 45 ∨ K = 7 ∨ K = 10 ∨ K = 33 ∨ K = 34 ∨ K = 35) → σ2 K = σ K := fun K hK => funext fun n => f2 K n (by omega)
    have hp : pls σ σ2 := by
      unfold pls npl
      rw [f3 3 (by decide), f3 21 (by decide), f3 24 (by decide), f3 25 (by decide), f3 60 (by decide), f3 61 (by decide)]
      exact ⟨Nat.le_refl _, fun _ _ => ⟨rfl, rfl, rfl, rfl, rfl, rfl⟩⟩
    have hw : ∀ n : Nat, ¬ n = 2 + i.toNat → wst n σ σ2 := fun n hn => ⟨f2 7 n (by omega), f2 10 n (by omega), f2 33 n (by omega), f2 34 n (by omega), f2 35 n (by omega)⟩
    have g44 : ∀ j : Nat, σ2 44 0 j = if 1514 * (i + 1) ≤ (j : Int) ∧ (j : Int) < 1514 * (i + 1) + 1514 then σ 44 0 (j - 1514 * (i + 1)).toNat else σ 44 0 j := fun j => by rw [k1]; rfl
    have lo : ∀ j : Nat, j < 1514 → σ2 44 0 j = σ 44 0 j := fun j hj => by rw [g44, if_neg (by omega)]
    have hP2 : PI σ2 (σ 44 0) := by
      obtain ⟨p1, p2, p3, p4⟩ := v3
      have s2 : ∀ k : Nat, slt σ2 k = slt σ k := fun k => by unfold slt; rw [f3 2 (by decide)]
      unfold PI
      rw [f3 2 (by decide)]
      refine ⟨p1, p2, p3, fun k j hk hj => ?_⟩
      rw [s2, ← p4 k j hk hj]
      have hs := slt_lt (σ := σ) (k := k)
      generalize slt σ k = n at hs
      unfold stt
      rw [f2 7 n (by omega), f2 33 n (by omega), f2 34 n (by omega), f2 35 n (by omega)]
    obtain ⟨l1, l2⟩ := LawA_pl (a1 := σ2 44 0) r2 (fun j hj => lo j (by omega))
    have w2 : ∀ K : Nat, ¬ (K = 12 ∨ K = 44 ∨ K = 45 ∨ K = 43) → σ2 K = σ0 K := fun K hK => by
      rw [x2.1 K (by simp only [List.mem_cons, List.not_mem_nil, or_false]; omega), ← hσ1, mu_k (by omega)]
    have wi : wst (2 + i.toNat) σ0 σ2 := ⟨by rw [w2 7 (by decide)], by rw [w2 10 (by decide)], by rw [w2 33 (by decide)], by rw [w2 34 (by decide)], by rw [w2 35 (by decide)]⟩
    have p02 : pls σ0 σ2 := by
      unfold pls npl
      rw [w2 3 (by decide), w2 21 (by decide), w2 24 (by decide), w2 25 (by decide), w2 60 (by decide), w2 61 (by decide)]
      exact ⟨Nat.le_refl _, fun _ _ => ⟨rfl, rfl, rfl, rfl, rfl, rfl⟩⟩
    refine ⟨LV_of (hw 0 (by omega)) hp v1 v2 hP2 (fun j hj => by rw [lo j (by omega)]) (fun j hj hj2 => lo j (by omega)) (l2 0 (by decide)) (l2 1 (by decide)) l1 (by rw [lo 18 (by decide)]; omega) (fun k hk => ?_), fun n hn => ?_, TRS_x tr (f3 8 (by decide)) (f3 36 (by decide)) (f3 56 (by decide)) (f3 57 (by decide)) (f3 58 (by decide)), TAP_k (h12 := funext fun n => f1 12 n (by omega)) ta x2.2 (f3 11 (by decide)) (f3 40 (by decide)) (f3 46 (by decide)) (f3 4 (by decide)), PPN_x pn (f3 60 (by decide)) (f3 4 (by decide))⟩
    · rw [lo 72 (by decide)] at hk
      have h72 := v3.2.2.1
      obtain ⟨q1, q2⟩ := r4 k hk
      refine ⟨bck_ok q1 (fun j hj => ?_) (fun j h1 h2 => ?_), ?_⟩
      · rw [lo j (by omega)]
        unfold bck
        rw [if_neg (by omega)]
      · rw [lo _ (by omega)]
        unfold bck
        rw [if_pos ⟨h1, h2⟩]
      · rw [lo _ (by omega)]
        omega
    · obtain ⟨y1, y2, y3, y4⟩ := im n hn
      have e43 : σ2 43 0 n = if n = i.toNat then 1 else σ 43 0 n := by
        rw [x2.1 43 (by decide), ← hσ1, mu_at, f0 43 0 (by omega)]
      have e45 : σ2 45 0 n = if n = i.toNat then 1 else σ 45 0 n := by rw [k2]; rfl
      rw [e43, e45]
      by_cases c : n = i.toNat
      · rw [if_pos c, if_pos c, c]
        refine ⟨rfl, Or.inr rfl, ?_, fun _ => ⟨σ 44 0, fun j hj => ?_, ?_, WI_s wi p02 i0, r2, by omega⟩⟩
        · rw [wi.2.1]
          exact Nat.lt_of_lt_of_le i0.2.1 p02.1
        · rw [g44, if_pos (by omega), show (((1514 * (i.toNat + 1) + j : Nat) : Int) - 1514 * (i + 1)).toNat = j by omega]
        · rw [V_s wi p02 i0.2.1, g0, v1]
      · rw [if_neg c, if_neg c]
        refine ⟨y1, y2, ?_, fun z => ?_⟩
        · rw [(hw (2 + n) (by omega)).2.1]
          exact Nat.lt_of_lt_of_le y3 hp.1
        · obtain ⟨b2, z1, z2, z3, z4, z5⟩ := y4 z
          exact ⟨b2, fun j hj => by rw [z1 j hj, g44, if_neg (by omega)], by rw [V_s (hw (2 + n) (by omega)) hp y3]; exact z2, WI_s (hw (2 + n) (by omega)) hp z3, z4, by omega⟩
theorem b_restore {i : Int} (hi : in32 i) (h : TI M σ) (hM : M ≤ M') : Bth (d + 120) 157 295 [bo, .inl i] [mo, .inl i] σ (TI M') := by
  obtain ⟨⟨v1, v2, v3, r1, r2, r3, r4⟩, im, tr, ta, pn⟩ := id h
  have hm1 : ∀ i : Nat, i < 2 → σ 43 0 i = 0 ∨ σ 43 0 i = 1 := fun i hi => by
    obtain ⟨y1, y2, -⟩ := im i hi
    rw [y1]; exact y2
  have hm2 : ∀ i : Nat, i < 2 → σ 45 0 i = 0 ∨ σ 45 0 i = 1 := fun i hi => (im i hi).2.1
  have ask : ∀ σ2 : Mem, rfi σ σ2 → σ2 44 = σ 44 → σ2 45 = σ 45 → TI M' σ2 := fun σ2 x2 e1 e2 => TI_ask h hM eqi.rf ⟨fun K hK => by
      by_cases c : K = 45
      · rw [c, e2]
      · exact x2.1 K (fun y => hK (by simp only [List.mem_cons, List.not_mem_nil, or_false] at y ⊢; omega)), x2.2⟩ (by rw [e1])
  by_cases cc : (0 ≤ i ∧ i ≤ 1) ∧ σ 43 0 i.toNat = 1
  rotate_left 1
  · refine c_restore (b2 := σ 44 0) (lw := []) (ll := []) hi hm1 (fun a b => absurd ⟨a, b⟩ cc) (fun w => ?_) (fun w e => ?_) (fun a b => absurd ⟨a, b⟩ cc)
    · exact q_restore hi hm2 (fun _ σ2 x2 e1 e2 => ⟨_, rfl, rfl, ask σ2 x2 e1 e2⟩) (fun y => absurd y w) (fun y => absurd y w)
    · have y1 := (im i.toNat (by omega)).1
      exact q_restore hi hm2 (fun y => absurd w y) (fun _ _ σ2 x2 e1 e2 => ⟨_, rfl, rfl, ask σ2 x2 e1 e2⟩) (fun _ y => by omega)
  · obtain ⟨w, e1⟩ := cc
    obtain ⟨y1, y2, y3, y4⟩ := im i.toNat (by omega)
    obtain ⟨b2, z1, z2, z3, z4, z5⟩ := y4 (by omega)
    refine c_restore (b2 := b2) hi hm1 (fun _ _ => z3) (fun y => absurd w y) (fun _ y => by omega) (fun _ _ σ0 x0 g0 i0 => ?_)
    rw [z2] at g0
    generalize hσ1 : mu σ0 2 0 2 0 = σ1
    have f1 : ∀ K n : Nat, ¬ (K = 2 ∨ ((K = 7 ∨ K = 10 ∨ K = 33 ∨ K = 34 ∨ K = 35) ∧ n = 0)) → σ1 K n = σ K n := fun K n hK => by rw [← hσ1, mu_row (by omega), x0 K n (by simp) (by simp only [List.mem_cons, List.not_mem_nil, or_false]; omega)]
    have e45 : σ1 45 = σ 45 := funext fun n => f1 45 n (by omega)
    refine q_restore hi (by rw [e45]; exact hm2) (fun y => absurd w y) (fun _ y => by rw [e45] at y; omega) (fun _ _ σ2 x2 k1 k2 => ⟨_, rfl, rfl, ?_⟩)
    rw [f1 44 0 (by omega)] at k1
    rw [e45] at k2
    have f2 : ∀ K n : Nat, ¬ (K = 2 ∨ K = 12 ∨ K = 44 ∨ K = 45 ∨ ((K = 7 ∨ K = 10 ∨ K = 33 ∨ K = 34 ∨ K = 35) ∧ n = 0)) → σ2 K n = σ K n := fun K n hK => by
      rw [x2.1 K (by simp only [List.mem_cons, List.not_mem_nil, or_false]; omega), f1 K n (by omega)]
    have f3 : ∀ K : Nat, ¬ (K = 2 ∨ K = 12 ∨ K = 44 ∨ K = 45 ∨ K = 7 ∨ K = 10 ∨ K = 33 ∨ K = 34 ∨ K = 35) → σ2 K = σ K := fun K hK => funext fun n => f2 K n (by omega)
    have hp : pls σ σ2 := by
      unfold pls npl
      rw [f3 3 (by decide), f3 21 (by decide), f3 24 (by decide), f3 25 (by decide), f3 60 (by decide), f3 61 (by decide)]
      exact ⟨Nat.le_refl _, fun _ _ => ⟨rfl, rfl, rfl, rfl, rfl, rfl⟩⟩
    have hw : ∀ n : Nat, ¬ n = 0 → wst n σ σ2 := fun n hn => ⟨f2 7 n (by omega), f2 10 n (by omega), f2 33 n (by omega), f2 34 n (by omega), f2 35 n (by omega)⟩
    have w2 : ∀ K : Nat, ¬ (K = 12 ∨ K = 44 ∨ K = 45 ∨ K = 2) → σ2 K = σ0 K := fun K hK => by
      rw [x2.1 K (by simp only [List.mem_cons, List.not_mem_nil, or_false]; omega), ← hσ1, mu_k (by omega)]
    have w0 : wst 0 σ0 σ2 := ⟨by rw [w2 7 (by decide)], by rw [w2 10 (by decide)], by rw [w2 33 (by decide)], by rw [w2 34 (by decide)], by rw [w2 35 (by decide)]⟩
    have p02 : pls σ0 σ2 := by
      unfold pls npl
      rw [w2 3 (by decide), w2 21 (by decide), w2 24 (by decide), w2 25 (by decide), w2 60 (by decide), w2 61 (by decide)]
      exact ⟨Nat.le_refl _, fun _ _ => ⟨rfl, rfl, rfl, rfl, rfl, rfl⟩⟩
    have g44 : ∀ j : Nat, j < 1514 → ¬ j = 72 → σ2 44 0 j = b2 j := fun j hj hn => by
      rw [k1, z1 j hj]
      unfold rstA
      rw [if_neg hn, if_pos hj, show (1514 * (i + 1) + (j : Int)).toNat = 1514 * (i.toNat + 1) + j by omega]
    have h44 : ∀ j : Nat, 1514 ≤ j → σ2 44 0 j = σ 44 0 j := fun j hj => by
      rw [k1]
      unfold rstA
      rw [if_neg (by omega), if_neg (by omega)]
    have e72 : σ2 44 0 72 = 0 := by rw [k1]; rfl
    have s2 : ∀ k : Nat, σ2 2 0 k = if k = 2 then 0 else σ 2 0 k := fun k => by
      rw [x2.1 2 (by decide), ← hσ1, mu_at, x0 2 0 (by simp) (by simp)]
    have hP2 : PI σ2 (σ2 44 0) := by
      unfold PI
      rw [e72, s2 1, s2 2, if_neg (by decide), if_pos rfl]
      exact ⟨v3.1, rfl, by decide, fun k j hk _ => by omega⟩
    obtain ⟨l1, l2⟩ := LawA_pl (a1 := σ2 44 0) z4 (fun j hj => g44 j (by omega) (by omega))
    exact ⟨LV_of w0 p02 g0 i0 hP2 (fun j hj => g44 j (by omega) (by omega)) (fun j _ _ => rfl) (l2 0 (by decide)) (l2 1 (by decide)) l1 (by rw [g44 18 (by decide) (by decide)]; omega) (fun k hk => by rw [e72] at hk; omega), IMG_x im hM (f3 43 (by decide)) k2 h44 hp (hw 2 (by decide)) (hw 3 (by decide)), TRS_x tr (f3 8 (by decide)) (f3 36 (by decide)) (f3 56 (by decide)) (f3 57 (by decide)) (f3 58 (by decide)), TAP_k (h12 := funext fun n => f1 12 n (by omega)) ta x2.2 (f3 11 (by decide)) (f3 40 (by decide)) (f3 46 (by decide)) (f3 4 (by decide)), PPN_x pn (f3 60 (by decide)) (f3 4 (by decide))⟩
end IMG9
