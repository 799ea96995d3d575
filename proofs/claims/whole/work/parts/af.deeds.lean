/-! af: deeds of both -/
section DEEDS9
variable {d : Nat} {M M' : Int} {σ σ1 σ2 : Mem}
theorem b_seed {n : Int} (h : TI M σ) (hM : M ≤ M') : Bth (d + 120) 113 207 [bo, .inl n] [mo, .inl n] σ (TI M') := by
  obtain ⟨⟨v1, v2, v3, r1, r2, r3, r4⟩, -⟩ := id h
  refine c_seed v2 v3 (fun σ1 f1 g1 i1 p1 => ?_)
  have e44 := f1.1 44 (by decide)
  rw [v1] at g1 p1
  refine q_seed (by rw [e44]; exact v3.2.2.1) (fun σ2 x2 g2 => ⟨_, rfl, ?_, TI_deed h hM f1 x2.w2 g1 i1 p1 (by rw [g2, e44]) ?_⟩)
  · rw [e44, v1]
  · rw [vu_ne (by decide)]; omega
theorem b_days {n : Int} (hn : in32 n) (h : TI M σ) (hM : M + 99 ≤ M') (hd : M + 99 < 1000000000) : Bth (d + 120) 122 233 [bo, .inl n] [mo, .inl n] σ (TI M') := by
  obtain ⟨⟨v1, v2, v3, r1, r2, r3, r4⟩, -⟩ := id h
  refine c_days hn v2 v3 (by rw [v1]; omega) (fun w => ?_) (fun w σ1 f1 g1 i1 p1 => ?_)
  · refine q_days hn r1 r2 v3.2.2.1 (by omega) (fun w2 σ2 x2 g2 => ⟨_, rfl, rfl, TI_ask h (by omega) eqi.rf x2.w2 g2⟩) (fun w2 => absurd w2 w)
  · have e44 := f1.1 44 (by decide)
    rw [v1] at g1 p1
    refine q_days hn (by rw [e44]; exact r1) (by rw [e44]; exact r2) (by rw [e44]; exact v3.2.2.1) (by rw [e44]; omega) (fun w2 => absurd w w2) (fun w2 σ2 x2 g2 => ⟨_, rfl, ?_, TI_deed h (by omega) f1 x2.w2 g1 i1 p1 (by rw [g2, e44]) ?_⟩)
    · rw [e44, v1]
    · have := dys_d (lw := lawR (σ 44 0) 0) n.toNat (σ 44 0) 0 r1 (by omega)
      omega
theorem b_season {s m : Int} (hm : in32 m) (h : TI M σ) (hM : M + 99 ≤ M') (hd : M + 99 < 1000000000) : Bth (d + 120) 126 245 [bo, .inl s, .inl m] [mo, .inl s, .inl m] σ (TI M') := by
  obtain ⟨⟨v1, v2, v3, r1, r2, r3, r4⟩, -⟩ := id h
  have e18 : vu (σ 44 0) 20 s 18 = σ 44 0 18 := vu_ne (by decide)
  refine c_season hm v2 v3 (by rw [v1]; omega) (fun w => ?_) (fun w σ1 f1 w1 g1 i1 p1 => ?_) (fun w σ1 f1 w1 g1 i1 p1 => ?_)
  · refine q_season hm r1 r2 v3.2.2.1 (by omega) (fun w2 σ2 x2 g2 => ⟨_, rfl, rfl, TI_ask h (by omega) eqi.rf x2.w2 g2⟩) (fun w2 => absurd w2 w) (fun w2 => absurd w2 w)
  · have e44 := f1.1 44 (by decide)
    rw [v1] at w1 g1 p1
    refine q_season hm (by rw [e44]; exact r1) (by rw [e44]; exact r2) (by rw [e44]; exact v3.2.2.1) (by rw [e44]; omega) (fun w2 => absurd w w2) (fun w2 σ2 x2 w3 g2 => ⟨_, rfl, ?_, TI_deed h (by omega) f1 x2.w2 g1 i1 p1 (by rw [g2, e44]) ?_⟩) (fun w2 σ2 x2 w3 g2 => ?_)
    · rw [e44, v1]
    · have := ssn_d (lw := lawR (σ 44 0) 0) (ll := lawR (σ 44 0) 1) m.toNat (vu (σ 44 0) 20 s) 0 (OkA_20 r1) (by rw [e18]; omega)
      rw [e18] at this
      omega
    · rw [e44] at w3
      omega
  · have e44 := f1.1 44 (by decide)
    rw [v1] at w1 g1
    refine q_season hm (by rw [e44]; exact r1) (by rw [e44]; exact r2) (by rw [e44]; exact v3.2.2.1) (by rw [e44]; omega) (fun w2 => absurd w w2) (fun w2 σ2 x2 w3 g2 => ?_) (fun w2 σ2 x2 w3 g2 => ⟨_, rfl, rfl, TI_no h (by omega) f1 x2.w2 g1 i1 p1 (by rw [g2, e44])⟩)
    rw [e44] at w3
    omega
/-- some calls are undone -/
theorem b_undo {n : Int} (hn : in32 n) (h : TI M σ) (hM : M ≤ M') : Bth (d + 120) 123 236 [bo, .inl n] [mo, .inl n] σ (TI M') := by
  obtain ⟨⟨v1, v2, v3, r1, r2, r3, r4⟩, -⟩ := id h
  have h72 := v3.2.2.1
  refine c_undo hn v2 v3 (fun k hk => ?_) (fun w => ?_) (fun w σ1 f1 g1 i1 p1 => ?_)
  · rw [v1]; exact (r4 k hk).1
  · refine q_undo hn h72 (fun w2 σ2 x2 g2 => ⟨_, rfl, rfl, TI_ask h hM eqi.rf x2.w2 g2⟩) (fun w2 => absurd w2 w)
  · have e44 := f1.1 44 (by decide)
    refine q_undo hn (by rw [e44]; exact h72) (fun w2 => absurd w (by rw [e44] at w2; exact w2)) (fun w2 σ2 x2 g2 => ⟨_, rfl, by rw [e44], ?_⟩)
    rw [v1] at g1
    rw [e44] at g2
    generalize ha : σ 44 0 = a at *
    have hr := x2.w2
    obtain ⟨o1, o2⟩ := r4 (a 72 - n).toNat (by omega)
    have g44 : ∀ j : Nat, σ2 44 0 j = if j = 72 then a 72 - n else if 18 ≤ j ∧ j < 72 then a (73 + 54 * (a 72 - n).toNat + (j - 18)) else a j := fun j => by rw [g2]; rfl
    have hP2 : PI σ2 (vu a 72 (a 72 - n)) := PI_i (hr.1.i (L2 := [12, 44, 48, 49, 50, 51, 52, 53, 54, 55]) (M := []) (w := 0) (fun _ x => x)) (by decide) (by decide) (Or.inl (by decide)) p1
    obtain ⟨l1, l2⟩ := LawA_pl (a1 := σ2 44 0) r2 (fun j hj => by rw [g44, if_neg (by omega), if_neg (by omega)])
    have b72 : σ2 44 0 72 = a 72 - n := by rw [g44, if_pos rfl]
    refine ⟨LV_of (wst_x hr.1 (by decide)) (pls_x hr.1 (by decide)) g1 i1 hP2 (fun j hj => ?_) (fun j hj _ => ?_) (l2 0 (by decide)) (l2 1 (by decide)) l1 ?_ (fun k hk => ?_), rest_of h hM f1.w hr (fun j hj => by rw [g44, if_neg (by omega), if_neg (by omega), ha])⟩
    · rw [g44, if_neg (by omega)]
    · rw [g44]
      unfold vu
      by_cases c : j = 72
      · rw [if_pos c, if_pos c]
      · rw [if_neg c, if_neg c, if_neg (by omega)]
    · rw [g44, if_neg (by decide), if_pos (by omega)]
      show a (73 + 54 * (a 72 - n).toNat + 0) ≤ M'
      rw [Nat.add_zero]
      omega
    · rw [b72] at hk
      obtain ⟨q1, q2⟩ := r4 k (by omega)
      refine ⟨bck_ok q1 (fun j hj => ?_) (fun j h1 h2 => ?_), ?_⟩
      · rw [g44, if_neg (by omega), if_neg (by omega)]
        unfold bck
        rw [if_neg (by omega)]
      · rw [g44, if_neg (by omega), if_neg (by omega)]
        unfold bck
        rw [if_pos ⟨h1, h2⟩]
      · rw [g44, if_neg (by omega), if_neg (by omega)]
        omega
/-- what a tray holds, on both sides -/
theorem TRS.c (h : TRS σ) : (∀ i : Nat, i < 4 → (σ 8 i 1 = 0 ∨ σ 8 i 1 = 1) ∧ 0 ≤ σ 8 i 3 ∧ σ 8 i 3 ≤ 40) ∧ (∀ (i : Nat) (k : Int), i < 4 → 0 ≤ k → k < 40 → in64 (σ 36 i k.toNat)) := ⟨fun i hi => ⟨(h i hi).1, (h i hi).2.2.1⟩, fun i k hi a b => ((h i hi).2.2.2.2.2.2.2.1 k.toNat (by omega)).1⟩
theorem TRS.r (h : TRS σ) : (∀ i : Nat, i < 4 → (-1 ≤ σ 56 0 i ∧ σ 56 0 i ≤ 3) ∧ 0 ≤ σ 57 0 i ∧ σ 57 0 i ≤ 40) ∧ (∀ i k : Int, 0 ≤ i → i < 4 → 0 ≤ k → k < 40 → in64 (σ 58 0 (40 * i + k).toNat)) := ⟨fun i hi => by
  obtain ⟨h1, h2, h3, h4, h5, h6, h7, h8, h9⟩ := h i hi
  exact ⟨h5, by omega, by omega⟩, fun i k a b c e => by
  obtain ⟨h1, h2, h3, h4, h5, h6, h7, h8, h9⟩ := h i.toNat (by omega)
  have := (h8 k.toNat (by omega)).2
  rw [show 40 * i.toNat + k.toNat = (40 * i + k).toNat by omega] at this
  exact this⟩
theorem TRS.e {t : Int} (h : TRS σ) (ht : 0 ≤ t ∧ t < 4) : σ 57 0 t.toNat = σ 8 t.toNat 3 ∧ (σ 8 t.toNat 1 = 1 → σ 56 0 t.toNat = -1) ∧ (σ 8 t.toNat 1 = 0 → ¬ σ 56 0 t.toNat = -1) ∧ (σ 8 t.toNat 1 = 0 → σ 56 0 t.toNat = σ 8 t.toNat 2) ∧ (∀ k : Int, 0 ≤ k → k < σ 8 t.toNat 3 → σ 36 t.toNat k.toNat = σ 58 0 (40 * t + k).toNat) ∧ (0 ≤ σ 8 t.toNat 3 ∧ σ 8 t.toNat 3 ≤ 40) := by
  obtain ⟨h1, h2, h3, h4, h5, h6, h7, h8, h9⟩ := h t.toNat (by omega)
  refine ⟨h6, fun c => h4.mp c, fun c x => ?_, h7, fun k a b => ?_, h3⟩
  · have := h4.mpr x
    omega
  · rw [h9 k.toNat (by omega), show 40 * t.toNat + k.toNat = (40 * t + k).toNat by omega]
theorem tel_0 {lw ll : List Int} {f : Int → Int} {n : Nat} {a : BV} {T : Int × Int × BV} (h : (tel lw ll f n 0 a).1 = 0) (hT : tel lw ll f n 0 a = T) : T.2.2 = a := by
  cases n with
  | zero => rw [← hT]; rfl
  | succ n =>
    have t1 : tel lw ll f (n + 1) 0 a = if whyN a lw ll (f 0) = 0 then tel lw ll f n (0 + 1) (mBr lw 8 (doA a (f 0))) else (0, whyN a lw ll (f 0), a) := rfl
    rw [t1] at h hT
    by_cases c : whyN a lw ll (f 0) = 0
    · rw [if_pos c] at h
      have := tel_b (lw := lw) (ll := ll) (f := f) n (0 + 1) (mBr lw 8 (doA a (f 0)))
      omega
    · rw [if_neg c] at hT
      rw [← hT]
theorem b_perform {t : Int} (ht : in32 t) (h : TI M σ) (hM : M + 99 ≤ M') (hd : M + 99 < 1000000000) : Bth (d + 120) 125 244 [bo, .inl t] [mo, .inl t] σ (TI M') := by
  obtain ⟨⟨v1, v2, v3, r1, r2, r3, r4⟩, -, tr, -⟩ := id h
  obtain ⟨c1, c2⟩ := tr.c
  obtain ⟨q1, q2⟩ := tr.r
  refine c_perform ht c1 c2 v2 v3 (by rw [v1]; omega) (fun w => ?_) (fun w e => ?_) (fun w e σ1 f1 g1 i1 p1 => ?_)
  · exact q_perform ht q1 q2 r1 r2 v3.2.2.1 (by omega) (fun w2 σ2 x2 g2 => ⟨_, rfl, rfl, TI_ask h (by omega) eqi.rf x2.w2 g2⟩) (fun w2 => by omega) (fun w2 => by omega)
  · obtain ⟨t1, t2, t3, t4, t5, t6⟩ := tr.e w
    exact q_perform ht q1 q2 r1 r2 v3.2.2.1 (by omega) (fun w2 => by omega) (fun w2 _ σ2 x2 g2 => ⟨_, rfl, rfl, TI_ask h (by omega) eqi.rf x2.w2 g2⟩) (fun w2 x => absurd (t2 e) x)
  · obtain ⟨t1, t2, t3, t4, t5, t6⟩ := tr.e w
    have x : ∀ K : Nat, K ∉ [0, 2, 7, 27, 28, 33, 34, 35, 39] → σ1 K = σ K := f1.1
    have e44 := x 44 (by decide)
    rw [v1] at g1 p1
    have ec : tel (lawR (σ 44 0) 0) (lawR (σ 44 0) 1) (fun k => σ 58 0 (40 * t + k).toNat) (σ 57 0 t.toNat).toNat 0 (σ 44 0) = tel (lawR (σ 44 0) 0) (lawR (σ 44 0) 1) (fun k => σ 36 t.toNat k.toNat) (σ 8 t.toNat 3).toNat 0 (σ 44 0) := by
      rw [t1]
      exact tel_c _ _ _ (fun i a b => (t5 i a (by omega)).symm)
    have td := tel_d (lw := lawR (σ 44 0) 0) (ll := lawR (σ 44 0) 1) (f := fun k => σ 36 t.toNat k.toNat) (σ 8 t.toNat 3).toNat 0 (σ 44 0) r1 (by omega)
    refine q_perform ht (by rw [x 56 (by decide), x 57 (by decide)]; exact q1) (by rw [x 58 (by decide)]; exact q2) (by rw [e44]; exact r1) (by rw [e44]; exact r2) (by rw [e44]; exact v3.2.2.1) (by rw [e44]; omega) (fun w2 => by omega) (fun w2 y => absurd (by rw [x 56 (by decide)] at y; exact y) (t3 e)) (fun w2 y σ2 x2 g2 => ⟨_, rfl, ?_, ?_⟩)
    · rw [e44, x 58 (by decide), x 57 (by decide), ec, v1]
    · rw [e44, x 58 (by decide), x 57 (by decide), ec] at g2
      generalize hT : tel (lawR (σ 44 0) 0) (lawR (σ 44 0) 1) (fun k => σ 36 t.toNat k.toNat) (σ 8 t.toNat 3).toNat 0 (σ 44 0) = T at *
      by_cases c : 0 < T.1
      · rw [if_pos c] at g2 p1
        exact TI_deed h (by omega) f1 x2.w2 g1 i1 p1 g2 (by omega)
      · rw [if_neg c] at g2 p1
        have hT0 : T.2.2 = σ 44 0 := by
          have hb := tel_b (lw := lawR (σ 44 0) 0) (ll := lawR (σ 44 0) 1) (f := fun k => σ 36 t.toNat k.toNat) (σ 8 t.toNat 3).toNat 0 (σ 44 0)
          rw [hT] at hb
          exact tel_0 (by rw [hT]; omega) hT
        rw [hT0] at g1 g2
        exact TI_no h (by omega) f1 x2.w2 g1 i1 p1 g2
end DEEDS9
