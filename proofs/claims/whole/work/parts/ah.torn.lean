/-! ah: both: which paper was torn, whom to weigh -/
section TORN9
variable {d : Nat} {M M' : Int} {σ σ1 σ2 : Mem}
theorem b_torn {t : Int} (ht : in32 t) (h : TI M σ) (hM : M ≤ M') : Bth (d + 120) 147 280 [bo, .inl t] [mo, .inl t] σ (TI M') := by
  obtain ⟨⟨v1, v2, v3, r1, r2, r3, r4⟩, -, tr, -⟩ := id h
  obtain ⟨c1, c2⟩ := tr.c
  obtain ⟨q1, q2⟩ := tr.r
  refine c_torn (sn := fun k => σ 36 t.toNat k.toNat) ht c1 c2 (fun _ => rfl) v2 (fun w => ?_) (fun w e => ?_) (fun w e n1 => ?_) (fun w e n1 σ1 x1 => ?_)
  · exact q_torn (sn := fun k => σ 58 0 (40 * t + k).toNat) ht q1 q2 (fun _ => rfl) r1 r2 (fun w2 σ2 x2 g2 => ⟨_, rfl, rfl, TI_ask h hM eqi.rf x2 g2⟩) (fun w2 => by omega) (fun w2 => by omega) (fun w2 => by omega)
  · obtain ⟨t1, t2, t3, t4, t5, t6⟩ := tr.e w
    exact q_torn (sn := fun k => σ 58 0 (40 * t + k).toNat) ht q1 q2 (fun _ => rfl) r1 r2 (fun w2 => by omega) (fun w2 _ σ2 x2 g2 => ⟨_, rfl, rfl, TI_ask h hM eqi.rf x2 g2⟩) (fun w2 x => absurd (t2 e) x) (fun w2 x => absurd (t2 e) x)
  · obtain ⟨t1, t2, t3, t4, t5, t6⟩ := tr.e w
    rw [v1] at n1
    exact q_torn (sn := fun k => σ 58 0 (40 * t + k).toNat) ht q1 q2 (fun _ => rfl) r1 r2 (fun w2 => by omega) (fun w2 x => absurd x (t3 e)) (fun w2 x y σ2 x2 g2 => ⟨_, rfl, rfl, TI_ask h hM eqi.rf x2 g2⟩) (fun w2 x y => by omega)
  · obtain ⟨t1, t2, t3, t4, t5, t6⟩ := tr.e w
    rw [v1] at n1
    have e44 := x1.k (K := 44) (by decide) (by decide)
    have e56 := x1.k (K := 56) (by decide) (by decide)
    have e57 := x1.k (K := 57) (by decide) (by decide)
    have e58 := x1.k (K := 58) (by decide) (by decide)
    refine q_torn (sn := fun k => σ 58 0 (40 * t + k).toNat) ht (by rw [e56, e57]; exact q1) (by rw [e58]; exact q2) (fun _ => by rw [e58]) (by rw [e44]; exact r1) (by rw [e44]; exact r2) (fun w2 => by omega) (fun w2 x => absurd (by rw [e56] at x; exact x) (t3 e)) (fun w2 x y => by rw [e44, e57] at y; omega) (fun w2 x y σ2 x2 g2 => ⟨_, rfl, ?_, TI_ask h hM (x1.wd (by decide) (by decide)) x2 g2⟩)
    rw [e44, v1, tnL_c (fun i a b => (t5 i a (by omega)).symm)]
theorem b_tornAt {t z : Int} (ht : in32 t) (hz : in32 z) (h : TI M σ) (hM : M ≤ M') : Bth (d + 120) 149 283 [bo, .inl t, .inl z] [mo, .inl t, .inl z] σ (TI M') := by
  obtain ⟨⟨v1, v2, v3, r1, r2, r3, r4⟩, -, tr, -⟩ := id h
  obtain ⟨c1, c2⟩ := tr.c
  obtain ⟨q1, q2⟩ := tr.r
  refine c_tornAt (sn := fun k => σ 36 t.toNat k.toNat) ht hz c1 c2 (fun _ => rfl) v2 (fun w => ?_) (fun w e => ?_) (fun w e n1 => ?_) (fun w e n1 n3 => ?_) (fun w e n1 n0 σ1 x1 => ?_)
  · exact q_tornAt (sn := fun k => σ 58 0 (40 * t + k).toNat) ht hz q1 q2 (fun _ => rfl) r1 r2 (fun w2 σ2 x2 g2 => ⟨_, rfl, rfl, TI_ask h hM eqi.rf x2 g2⟩) (fun w2 => by omega) (fun w2 => by omega) (fun w2 => by omega) (fun w2 => by omega)
  · obtain ⟨t1, t2, t3, t4, t5, t6⟩ := tr.e w
    exact q_tornAt (sn := fun k => σ 58 0 (40 * t + k).toNat) ht hz q1 q2 (fun _ => rfl) r1 r2 (fun w2 => by omega) (fun w2 _ σ2 x2 g2 => ⟨_, rfl, rfl, TI_ask h hM eqi.rf x2 g2⟩) (fun w2 x => absurd (t2 e) x) (fun w2 x => absurd (t2 e) x) (fun w2 x => absurd (t2 e) x)
  · obtain ⟨t1, t2, t3, t4, t5, t6⟩ := tr.e w
    rw [v1] at n1
    exact q_tornAt (sn := fun k => σ 58 0 (40 * t + k).toNat) ht hz q1 q2 (fun _ => rfl) r1 r2 (fun w2 => by omega) (fun w2 x => absurd x (t3 e)) (fun w2 x y σ2 x2 g2 => ⟨_, rfl, rfl, TI_ask h hM eqi.rf x2 g2⟩) (fun w2 x y => by omega) (fun w2 x y => by omega)
  · obtain ⟨t1, t2, t3, t4, t5, t6⟩ := tr.e w
    rw [v1] at n1
    exact q_tornAt (sn := fun k => σ 58 0 (40 * t + k).toNat) ht hz q1 q2 (fun _ => rfl) r1 r2 (fun w2 => by omega) (fun w2 x => absurd x (t3 e)) (fun w2 x y => by omega) (fun w2 x y z σ2 x2 g2 => ⟨_, rfl, rfl, TI_ask h hM eqi.rf x2 g2⟩) (fun w2 x y z => by omega)
  · obtain ⟨t1, t2, t3, t4, t5, t6⟩ := tr.e w
    rw [v1] at n1
    have e44 := x1.k (K := 44) (by decide) (by decide)
    have e56 := x1.k (K := 56) (by decide) (by decide)
    have e57 := x1.k (K := 57) (by decide) (by decide)
    have e58 := x1.k (K := 58) (by decide) (by decide)
    refine q_tornAt (sn := fun k => σ 58 0 (40 * t + k).toNat) ht hz (by rw [e56, e57]; exact q1) (by rw [e58]; exact q2) (fun _ => by rw [e58]) (by rw [e44]; exact r1) (by rw [e44]; exact r2) (fun w2 => by omega) (fun w2 x => absurd (by rw [e56] at x; exact x) (t3 e)) (fun w2 x y => by rw [e44, e57] at y; omega) (fun w2 x y z => by omega) (fun w2 x y z0 σ2 x2 g2 => ⟨_, rfl, ?_, TI_ask h hM (x1.wd (by decide) (by decide)) x2 g2⟩)
    rw [e44, v1, tnL_c (fun i a b => (t5 i a (by omega)).symm)]
theorem b_weighed {t : Int} (ht : in32 t) (h : TI M σ) (hM : M ≤ M') : Bth (d + 120) 150 284 [bo, .inl t] [mo, .inl t] σ (TI M') := by
  obtain ⟨⟨v1, v2, v3, r1, r2, r3, r4⟩, -, tr, -⟩ := id h
  obtain ⟨c1, c2⟩ := tr.c
  obtain ⟨q1, q2⟩ := tr.r
  refine c_weighed (sn := fun k => σ 36 t.toNat k.toNat) ht c1 c2 (fun _ => rfl) v2 (fun w => ?_) (fun w e => ?_) (fun w e n1 => ?_) (fun w e n1 σ1 x1 => ?_)
  · exact q_weighed (sn := fun k => σ 58 0 (40 * t + k).toNat) ht q1 q2 (fun _ => rfl) r1 r2 (fun w2 σ2 x2 g2 => ⟨_, rfl, rfl, TI_ask h hM eqi.rf x2 g2⟩) (fun w2 => by omega) (fun w2 => by omega) (fun w2 => by omega)
  · obtain ⟨t1, t2, t3, t4, t5, t6⟩ := tr.e w
    exact q_weighed (sn := fun k => σ 58 0 (40 * t + k).toNat) ht q1 q2 (fun _ => rfl) r1 r2 (fun w2 => by omega) (fun w2 _ σ2 x2 g2 => ⟨_, rfl, rfl, TI_ask h hM eqi.rf x2 g2⟩) (fun w2 x => absurd (t2 e) x) (fun w2 x => absurd (t2 e) x)
  · obtain ⟨t1, t2, t3, t4, t5, t6⟩ := tr.e w
    rw [v1] at n1
    exact q_weighed (sn := fun k => σ 58 0 (40 * t + k).toNat) ht q1 q2 (fun _ => rfl) r1 r2 (fun w2 => by omega) (fun w2 x => absurd x (t3 e)) (fun w2 x y σ2 x2 g2 => ⟨_, rfl, rfl, TI_ask h hM eqi.rf x2 g2⟩) (fun w2 x y => by omega)
  · obtain ⟨t1, t2, t3, t4, t5, t6⟩ := tr.e w
    rw [v1] at n1
    have e44 := x1.k (K := 44) (by decide) (by decide)
    have e56 := x1.k (K := 56) (by decide) (by decide)
    have e57 := x1.k (K := 57) (by decide) (by decide)
    have e58 := x1.k (K := 58) (by decide) (by decide)
    refine q_weighed (sn := fun k => σ 58 0 (40 * t + k).toNat) ht (by rw [e56, e57]; exact q1) (by rw [e58]; exact q2) (fun _ => by rw [e58]) (by rw [e44]; exact r1) (by rw [e44]; exact r2) (fun w2 => by omega) (fun w2 x => absurd (by rw [e56] at x; exact x) (t3 e)) (fun w2 x y => by rw [e44, e57] at y; omega) (fun w2 x y σ2 x2 g2 => ⟨_, rfl, ?_, TI_ask h hM (x1.wd (by decide) (by decide)) x2 g2⟩)
    rw [e44, v1, tnL_c (fun i a b => (t5 i a (by omega)).symm)]
end TORN9
