/-! ak: both: a bridge told -/
/-- both are called; the first makes at most so much -/
def BthA (d jc jr : Nat) (av bv : List AV) (σ : Mem) (G : Mem → Prop) : Prop := EvA d 906 960 jc av σ (fun r σ1 => Ev d jr bv σ1 (fun r' σ2 => ∃ v : Int, r = some (.inl v) ∧ r' = some (.inl v) ∧ G σ2))
section BRIDGE9
variable {d : Nat} {M M' : Int} {σ σ1 σ2 : Mem}
set_option maxHeartbeats 1000000 in
theorem b_bridge {k : Int} (hk : in32 k) (h : TI M σ) (hM : M ≤ M') (h9 : 999 ≤ M) : BthA (d + 120) 108 161 [bo, .inl k] [mo, .inl k] σ (TI M') := by
  obtain ⟨⟨v1, v2, v3, r1, r2, r3, r4⟩, im, tr, ta, pn⟩ := id h
  obtain ⟨a1, a2, a3, a4, a5⟩ := id ta
  have p2 := (im 0 (by decide)).2.2.1
  have p3 := (im 1 (by decide)).2.2.1
  have p0 : (σ 10 0 3).toNat < npl σ := v2.2.1
  have P : ∀ w, w < 4 → ¬ w = 1 → (σ 10 w 3).toNat < npl σ := fun w hw hn => by
    have : w = 0 ∨ w = 2 ∨ w = 3 := by omega
    rcases this with rfl | rfl | rfl
    · exact p0
    · exact p2
    · exact p3
  refine EvA.re (G := npl σ + 1) rfl (by omega) P pn.2 ?_
  generalize hs : mu σ 10 1 3 ((npl σ + 1 : Nat) : Int) = s0
  have s : ∀ K n : Nat, ¬ (K = 10 ∧ n = 1) → s0 K n = σ K n := fun K n hK => by rw [← hs, mu_row hK]
  have sK : ∀ K : Nat, ¬ K = 10 → s0 K = σ K := fun K hK => by rw [← hs, mu_k hK]
  have sn : npl s0 = npl σ := by unfold npl; rw [sK 60 (by decide)]
  have s1 : (s0 10 1 3).toNat = npl σ + 1 := by rw [← hs, mu_at, if_pos rfl, Int.toNat_natCast]
  have hT : ∀ i : Int, 0 ≤ i → i < σ 12 0 5 → σ 46 0 i.toNat = (fun j : Int => σ 46 0 j.toNat) i ∧ 0 ≤ (fun j : Int => σ 46 0 j.toNat) i ∧ (fun j : Int => σ 46 0 j.toNat) i < 256 := fun i x y => ⟨rfl, (a3 i.toNat (by omega)).2⟩
  have hpp : ppn s0 := by
    refine ⟨by rw [sK 60 (by decide)]; exact pn.1, fun w hw => ?_, ?_⟩
    · rw [sn]
      by_cases c : w = 1
      · subst c
        rw [s1]; omega
      · rw [s 10 w (by omega)]
        have := P w hw c
        omega
    · rw [sn, sK 4 (by decide)]
      have := pn.2
      omega
  have e11 : s0 11 0 13 = σ 12 0 5 := by rw [sK 11 (by decide), a2]
  refine c_bridge (T := fun j : Int => σ 46 0 j.toNat) hk (by rw [e11]; exact a1) (fun i x y => ?_) hpp (fun w => ?_) (fun w f q hh σ1 x1 g1 => ?_) (fun w q D hh oD σ1 x1 g1 g2 g3 g4 g5 => ?_)
  · rw [e11] at y
    rw [sK 40 (by decide)]
    exact a3 i.toNat (by omega)
  · rw [e11] at w
    refine q_bridge (T := fun j : Int => σ 46 0 j.toNat) hk (by rw [sK 12 (by decide)]; exact a1) (fun i x y => by rw [sK 46 (by decide)]; rw [sK 12 (by decide)] at y; exact hT i x y) (fun _ σ2 x2 e2 => ⟨_, rfl, rfl, TI_ask h hM (σ1 := s0) (fun K n _ hM9 => s K n (fun x => hM9 ⟨by rw [x.1]; decide, x.2⟩)) x2 (by rw [e2])⟩) (fun y => absurd (by rw [sK 12 (by decide)] at y; exact y) w) (fun y => absurd (by rw [sK 12 (by decide)] at y; exact y) w)
  · rw [e11] at w
    have hnp : npl (mu s0 11 0 13 0) = npl σ := by unfold npl; rw [mu_k (by decide)]; exact sn
    have f1 : ∀ K i : Nat, ¬ (K = 4 ∨ K = 11 ∨ K = 26 ∨ K = 60 ∨ K = 61 ∨ (K = 10 ∧ i = 1) ∨ ((K = 3 ∨ (21 ≤ K ∧ K ≤ 25)) ∧ i = npl σ)) → σ1 K i = σ K i := fun K i hK => by
      rw [x1.1 K i (by rw [hnp]; omega), mu_row (by omega), s K i (by omega)]
    have f61 : ∀ i j : Nat, ¬ ((i = 24 ∨ i = 25) ∧ j = npl σ) → σ1 61 i j = σ 61 i j := fun i j hK => by
      rw [x1.2.1 i j (by rw [hnp]; exact hK), mu_k (by decide), sK 61 (by decide)]
    have f60 : σ1 60 0 0 = σ 60 0 0 + 1 := by rw [x1.2.2.1, mu_k (by decide), sK 60 (by decide)]
    have f9 : (σ1 4 0 9).toNat = npl σ := by rw [x1.2.2.2, hnp]
    have f12 : σ1 12 0 = σ 12 0 := f1 12 0 (by omega)
    have f11 : σ1 11 0 13 = 0 := by rw [x1.1 11 0 (by rw [hnp]; omega), mu_at, if_pos rfl]
    refine q_bridge (T := fun j : Int => σ 46 0 j.toNat) hk (by rw [f12]; exact a1) (fun i x y => by rw [f1 46 0 (by omega)]; rw [f12] at y; exact hT i x y) (fun y => absurd w (by rw [f12] at y; exact y)) (fun _ f' q' hh' σ2 x2 b2 => ?_) (fun _ q' D' hh' => ?_)
    rotate_left 1
    · rw [hh] at hh'
      cases hh'
    rw [hh] at hh'
    obtain ⟨rfl, rfl⟩ := Prod.mk.inj (Sum.inr.inj hh')
    refine ⟨_, rfl, rfl, ?_⟩
    have f2 : ∀ K i : Nat, ¬ (K = 12 ∨ K = 47 ∨ K = 4 ∨ K = 11 ∨ K = 26 ∨ K = 60 ∨ K = 61 ∨ (K = 10 ∧ i = 1) ∨ ((K = 3 ∨ (21 ≤ K ∧ K ≤ 25)) ∧ i = npl σ)) → σ2 K i = σ K i := fun K i hK => by
      rw [x2 K (by simp only [List.mem_cons, List.not_mem_nil, or_false]; omega), f1 K i (by omega)]
    have g61 : σ2 61 = σ1 61 := x2 61 (by decide)
    have g60 : σ2 60 = σ1 60 := x2 60 (by decide)
    have hn2 : npl σ2 = npl σ + 1 := by
      have := pn.1
      unfold npl
      rw [g60, f60]
      omega
    have hp : pls σ σ2 := ⟨by omega, fun n hn => ⟨f2 3 n (by omega), f2 21 n (by omega), f2 24 n (by omega), f2 25 n (by omega), by rw [g61]; exact f61 24 n (by omega), by rw [g61]; exact f61 25 n (by omega)⟩⟩
    have hw : ∀ n : Nat, ¬ n = 1 → wst n σ σ2 := fun n hn => ⟨f2 7 n (by omega), f2 10 n (by omega), f2 33 n (by omega), f2 34 n (by omega), f2 35 n (by omega)⟩
    have e44 : σ2 44 0 = σ 44 0 := f2 44 0 (by omega)
    have fK : ∀ K : Nat, ¬ (K = 12 ∨ K = 47 ∨ K = 4 ∨ K = 11 ∨ K = 26 ∨ K = 60 ∨ K = 61 ∨ K = 10 ∨ K = 3 ∨ (21 ≤ K ∧ K ≤ 25)) → σ2 K = σ K := fun K hK => funext fun i => f2 K i (by omega)
    have hP2 : PI σ2 (σ 44 0) := by
      obtain ⟨y1, y2, y3, y4⟩ := v3
      unfold PI slt stt
      rw [fK 2 (by decide), fK 7 (by decide), fK 33 (by decide), fK 34 (by decide), fK 35 (by decide)]
      exact ⟨y1, y2, y3, y4⟩
    refine ⟨LV_of (hw 0 (by decide)) hp v1 v2 hP2 (fun j _ => by rw [e44]) (fun j _ _ => by rw [e44]) (by rw [e44]) (by rw [e44]) (by rw [e44]; exact r2) (by rw [e44]; omega) (fun k hk => ?_), IMG_x im hM (fK 43 (by decide)) (fK 45 (by decide)) (fun j _ => by rw [e44]) hp (hw 2 (by decide)) (hw 3 (by decide)), TRS_x tr (fK 8 (by decide)) (fK 36 (by decide)) (fK 56 (by decide)) (fK 57 (by decide)) (fK 58 (by decide)), ?_, ?_⟩
    · rw [e44] at hk ⊢
      obtain ⟨y1, y2⟩ := r4 k hk
      exact ⟨y1, by omega⟩
    · refine ⟨by rw [b2.2.2.1]; decide, by rw [x2 11 (by decide), f11, b2.2.2.1], fun j hj => by rw [b2.2.2.1] at hj; omega, ?_, ?_⟩
      · rw [x2 4 (by decide), g1.1, b2.2.2.2.1]
      · rw [x2 4 (by decide), g1.2, b2.2.2.2.2]
    · refine ⟨?_, ?_⟩
      · have := pn.1
        rw [g60, f60]; omega
      · rw [x2 4 (by decide), f9, hn2]; omega
  · rw [e11] at w
    obtain ⟨b1, b2, b3, b4, b5, b6, b7⟩ := x1
    rw [sn] at b1 b2 b4 g3
    have f1 : ∀ K i : Nat, ¬ (K = 2 ∨ K = 4 ∨ K = 11 ∨ K = 26 ∨ K = 27 ∨ K = 28 ∨ K = 39 ∨ K = 60 ∨ K = 61 ∨ (K = 10 ∧ i = 1) ∨ ((K = 7 ∨ K = 10 ∨ K = 33 ∨ K = 34 ∨ K = 35) ∧ i = 0) ∨ ((K = 3 ∨ (21 ≤ K ∧ K ≤ 25)) ∧ i = npl σ)) → σ1 K i = σ K i := fun K i hK => by
      rw [b1 K i (by omega), s K i (by omega)]
    have f12 : σ1 12 0 = σ 12 0 := f1 12 0 (by omega)
    refine q_bridge (T := fun j : Int => σ 46 0 j.toNat) hk (by rw [f12]; exact a1) (fun i x y => by rw [f1 46 0 (by omega)]; rw [f12] at y; exact hT i x y) (fun y => absurd w (by rw [f12] at y; exact y)) (fun _ f' q' hh' => ?_) (fun _ q' D' hh' oD' σ2 A A1 A2 x2 c2 k2 => ?_)
    · rw [hh] at hh'
      cases hh'
    rw [hh] at hh'
    obtain ⟨rfl, rfl⟩ := Prod.mk.inj (Sum.inl.inj hh')
    refine ⟨_, rfl, rfl, ?_⟩
    obtain ⟨l1, l2⟩ := LawA_ag oD A1
    have hcnt := oD.cnt
    have A72 : ∀ j : Nat, j < 72 → A j = D j := fun j hj => A1 j (by omega)
    have oA : OkA A := OkA_ag A72 oD.ok
    have hH : eqH A (mBr (lawR A 0) 8 A) := mBr_h 8 oA
    have f2 : ∀ K i : Nat, ¬ (K = 12 ∨ K = 44 ∨ K = 47 ∨ K = 48 ∨ K = 49 ∨ K = 50 ∨ K = 2 ∨ K = 4 ∨ K = 11 ∨ K = 26 ∨ K = 27 ∨ K = 28 ∨ K = 39 ∨ K = 60 ∨ K = 61 ∨ (K = 10 ∧ i = 1) ∨ ((K = 7 ∨ K = 10 ∨ K = 33 ∨ K = 34 ∨ K = 35) ∧ i = 0) ∨ ((K = 3 ∨ (21 ≤ K ∧ K ≤ 25)) ∧ i = npl σ)) → σ2 K i = σ K i := fun K i hK => by
      rw [x2 K (by simp only [List.mem_cons, List.not_mem_nil, or_false]; omega), f1 K i (by omega)]
    have g61 : σ2 61 = σ1 61 := x2 61 (by decide)
    have g60 : σ2 60 0 0 = σ 60 0 0 + 1 := by rw [x2 60 (by decide), b3, sK 60 (by decide)]
    have hn2 : npl σ2 = npl σ + 1 := by
      have := pn.1
      unfold npl
      rw [g60]
      omega
    have hp : pls σ σ2 := ⟨by omega, fun n hn => ⟨f2 3 n (by omega), f2 21 n (by omega), f2 24 n (by omega), f2 25 n (by omega), by rw [g61, b2 24 n (by omega), sK 61 (by decide)], by rw [g61, b2 25 n (by omega), sK 61 (by decide)]⟩⟩
    have hw : ∀ n : Nat, (n = 2 ∨ n = 3) → wst n σ σ2 := fun n hn => ⟨f2 7 n (by omega), f2 10 n (by omega), f2 33 n (by omega), f2 34 n (by omega), f2 35 n (by omega)⟩
    have fK : ∀ K : Nat, ¬ (K = 12 ∨ K = 44 ∨ K = 47 ∨ K = 48 ∨ K = 49 ∨ K = 50 ∨ K = 2 ∨ K = 4 ∨ K = 11 ∨ K = 26 ∨ K = 27 ∨ K = 28 ∨ K = 39 ∨ K = 60 ∨ K = 61 ∨ K = 10 ∨ K = 7 ∨ K = 33 ∨ K = 34 ∨ K = 35 ∨ K = 3 ∨ (21 ≤ K ∧ K ≤ 25)) → σ2 K = σ K := fun K hK => funext fun i => f2 K i (by omega)
    have w12 : wst 0 σ1 σ2 := wst_x x2 (by decide)
    have p12 : pls σ1 σ2 := pls_x x2 (by decide)
    have e0 : lawR A 0 = lawR D 0 := l2 0 (by decide)
    have lo : ∀ j : Nat, j < 72 → σ2 44 0 j = mBr (lawR D 0) 8 D j := fun j hj => by rw [k2, e0]; exact mBr_ag 8 oD.ok A72 j hj
    have hi : ∀ j : Nat, ¬ (18 ≤ j ∧ j < 72) → σ2 44 0 j = A j := fun j hj => by rw [k2]; exact hH j hj
    have e72 : σ2 44 0 72 = 0 := by
      rw [hi 72 (by omega), A1 72 (by omega)]
      exact oD.2.2.2.2.2.2.2.2.2.2.1 72 (by decide) (by decide)
    have t2 : ∀ k : Nat, σ2 2 0 k = if k = 2 then 0 else σ 2 0 k := fun k => by
      rw [x2 2 (by decide)]
      by_cases c : k = 2
      · rw [if_pos c, c]; exact g2
      · rw [if_neg c, b7 k c, sK 2 (by decide)]
    have hP2 : PI σ2 (σ2 44 0) := by
      unfold PI
      rw [e72, t2 1, t2 2, if_neg (by decide), if_pos rfl]
      exact ⟨v3.1, rfl, by decide, fun k j hk _ => by omega⟩
    obtain ⟨m1, m2⟩ := LawA_pl (a1 := σ2 44 0) l1 (fun j hj => hi j (by omega))
    refine ⟨LV_of w12 p12 g4 g5 hP2 (fun j hj => lo j (by omega)) (fun j _ _ => rfl) (by rw [m2 0 (by decide), e0]) (by rw [m2 1 (by decide), l2 1 (by decide)]) m1 ?_ (fun k hk => by rw [e72] at hk; omega), IMG_x im hM (fK 43 (by decide)) (fK 45 (by decide)) (fun j hj => ?_) hp (hw 2 (Or.inl rfl)) (hw 3 (Or.inr rfl)), TRS_x tr (fK 8 (by decide)) (fK 36 (by decide)) (fK 56 (by decide)) (fK 57 (by decide)) (fK 58 (by decide)), ?_, ?_⟩
    · rw [lo 18 (by decide), mBr_18]
      have := oD.2.2.2.2.1
      omega
    · rw [hi j (by omega), A2 j hj, f1 44 0 (by omega)]
    · refine ⟨by rw [c2.2.2.1]; decide, by rw [x2 11 (by decide), b6, c2.2.2.1], fun j hj => by rw [c2.2.2.1] at hj; omega, ?_, ?_⟩
      · rw [x2 4 (by decide), g1.1, c2.2.2.2.1]
      · rw [x2 4 (by decide), g1.2, c2.2.2.2.2]
    · refine ⟨?_, ?_⟩
      · have := pn.1
        rw [g60]; omega
      · rw [x2 4 (by decide), b4, hn2]; omega
end BRIDGE9
