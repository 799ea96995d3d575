/-! ag: both: trays read, trays written -/
section DEEDS10
variable {d : Nat} {M M' : Int} {σ σ1 σ2 : Mem}
theorem b_cancel {t : Int} (ht : in32 t) (h : TI M σ) (hM : M ≤ M') : Bth (d + 120) 118 226 [bo, .inl t] [mo, .inl t] σ (TI M') := by
  obtain ⟨⟨v1, v2, v3, r1, r2, r3, r4⟩, -, tr, -⟩ := id h
  obtain ⟨c1, c2⟩ := tr.c
  obtain ⟨q1, q2⟩ := tr.r
  have E : ∀ σ1 : Mem, frm σ σ1 → σ1 44 = σ 44 ∧ σ1 56 = σ 56 ∧ σ1 57 = σ 57 ∧ σ1 58 = σ 58 := fun σ1 f => ⟨f.1 44 (by decide), f.1 56 (by decide), f.1 57 (by decide), f.1 58 (by decide)⟩
  refine c_cancel (m := σ 8 t.toNat 3) (f := fun k => σ 36 t.toNat k.toNat) ht rfl (fun _ => rfl) c1 c2 v2 v3 (fun w => ?_) (fun w e => ?_) (fun w e n1 σ1 f1 g1 i1 p1 => ?_) (fun w e n1 n2 σ1 f1 g1 i1 p1 => ?_) (fun w e n1 n2 σ1 f1 g1 i1 p1 => ?_)
  · exact q_cancel (m := σ 57 0 t.toNat) (f := fun k => σ 58 0 (40 * t + k).toNat) ht rfl (fun _ => rfl) q1 q2 r1 r2 v3.2.2.1 (fun w2 σ2 x2 g2 => ⟨_, rfl, rfl, TI_ask h hM eqi.rf x2 g2⟩) (fun w2 => by omega) (fun w2 => by omega) (fun w2 => by omega) (fun w2 => by omega)
  · obtain ⟨t1, t2, t3, t4, t5, t6⟩ := tr.e w
    exact q_cancel (m := σ 57 0 t.toNat) (f := fun k => σ 58 0 (40 * t + k).toNat) ht rfl (fun _ => rfl) q1 q2 r1 r2 v3.2.2.1 (fun w2 => by omega) (fun w2 _ σ2 x2 g2 => ⟨_, rfl, rfl, TI_ask h hM eqi.rf x2 g2⟩) (fun w2 x => absurd (t2 e) x) (fun w2 x => absurd (t2 e) x) (fun w2 x => absurd (t2 e) x)
  all_goals
    obtain ⟨t1, t2, t3, t4, t5, t6⟩ := tr.e w
    obtain ⟨e44, e56, e57, e58⟩ := E σ1 f1
    have ep : ppl (fun k => σ 58 0 (40 * t + k).toNat) (σ 44 0 2) (σ 57 0 t.toNat).toNat 0 0 = ppl (fun k => σ 36 t.toNat k.toNat) (σ 44 0 2) (σ 8 t.toNat 3).toNat 0 0 := by
      rw [t1]
      exact ppl_c _ _ _ (fun i a b => (t5 i a (by omega)).symm)
    have el : 2 ≤ σ 8 t.toNat 3 → lsr (σ 44 0) (fun k => σ 58 0 (40 * t + k).toNat) (σ 57 0 t.toNat) = lsr (σ 44 0) (fun k => σ 36 t.toNat k.toNat) (σ 8 t.toNat 3) := fun c => by
      rw [t1]
      exact lsr_c c (fun i a b => (t5 i a b).symm)
    rw [v1] at n1
    try rw [v1] at n2
    rw [v1] at g1
  · refine q_cancel (m := σ 57 0 t.toNat) (f := fun k => σ 58 0 (40 * t + k).toNat) ht (by rw [e57]) (fun _ => by rw [e58]) (by rw [e56, e57]; exact q1) (by rw [e58]; exact q2) (by rw [e44]; exact r1) (by rw [e44]; exact r2) (by rw [e44]; exact v3.2.2.1) (fun w2 => by omega) (fun w2 y => absurd (by rw [e56] at y; exact y) (t3 e)) (fun w2 y z σ2 x2 g2 => ⟨_, rfl, rfl, TI_no h hM f1 x2 g1 i1 p1 (by rw [g2, e44])⟩) (fun w2 y z => ?_) (fun w2 y z => ?_)
    all_goals
      rw [e44, ep, t1] at z
      exact absurd z n1
  · refine q_cancel (m := σ 57 0 t.toNat) (f := fun k => σ 58 0 (40 * t + k).toNat) ht (by rw [e57]) (fun _ => by rw [e58]) (by rw [e56, e57]; exact q1) (by rw [e58]; exact q2) (by rw [e44]; exact r1) (by rw [e44]; exact r2) (by rw [e44]; exact v3.2.2.1) (fun w2 => by omega) (fun w2 y => absurd (by rw [e56] at y; exact y) (t3 e)) (fun w2 y z => ?_) (fun w2 y z z2 σ2 x2 g2 => ⟨_, rfl, rfl, TI_no h hM f1 x2 g1 i1 p1 (by rw [g2, e44])⟩) (fun w2 y z z2 => ?_)
    · rw [e44, ep, t1] at z
      exact absurd n1 z
    · rw [e44, el n1.1.1] at z2
      exact absurd n2 z2
  · refine q_cancel (m := σ 57 0 t.toNat) (f := fun k => σ 58 0 (40 * t + k).toNat) ht (by rw [e57]) (fun _ => by rw [e58]) (by rw [e56, e57]; exact q1) (by rw [e58]; exact q2) (by rw [e44]; exact r1) (by rw [e44]; exact r2) (by rw [e44]; exact v3.2.2.1) (fun w2 => by omega) (fun w2 y => absurd (by rw [e56] at y; exact y) (t3 e)) (fun w2 y z => ?_) (fun w2 y z z2 => ?_) (fun w2 y z z2 σ2 x2 g2 => ⟨_, rfl, ?_, ?_⟩)
    · rw [e44, ep, t1] at z
      exact absurd n1 z
    · rw [e44, el n1.1.1] at z2
      exact absurd z2 n2
    · rw [e44, el n1.1.1, v1]
    · rw [v1] at p1
      rw [e44, el n1.1.1, t1, rgA_c n1.1.1 (fun i a b => (t5 i a b).symm) _ (by omega)] at g2
      refine TI_deed h hM f1 x2 g1 i1 p1 g2 ?_
      rw [mBr_18, rgA_keep _ (fun i hi hx => ?_)]
      · omega
      · have sp := (ppl_spec r1.P.2 _ _ _ (by decide) n1.2).1
        have hx : (18 : Nat) = (36 + 6 * σ 36 t.toNat (i : Int).toNat + σ 36 t.toNat (((i : Int) + 1) % σ 8 t.toNat 3).toNat).toNat := hx
        have b1 := Int.emod_nonneg ((i : Int) + 1) (show σ 8 t.toNat 3 ≠ 0 by omega)
        have b2 := Int.emod_lt_of_pos ((i : Int) + 1) (show 0 < σ 8 t.toNat 3 by omega)
        have k1 := (sp (i : Int) (by omega) (by omega)).1
        have k2 := (sp _ b1 (by omega)).1
        omega
theorem b_judge {t x : Int} (ht : in32 t) (hx : in32 x) (h : TI M σ) (hM : M ≤ M') (hd : M + 99 < 1000000000) : Bth (d + 120) 124 237 [bo, .inl t, .inl x] [mo, .inl t, .inl x] σ (TI M') := by
  obtain ⟨⟨v1, v2, v3, r1, r2, r3, r4⟩, -, tr, -⟩ := id h
  obtain ⟨c1, c2⟩ := tr.c
  obtain ⟨q1, q2⟩ := tr.r
  refine c_judge ht hx c1 c2 v2 v3 (by rw [v1]; omega) (fun w => ?_) (fun w0 w e => ?_) (fun w0 w e σ1 f1 g1 i1 p1 => ?_)
  · exact q_judge ht hx q1 q2 r1 r2 (by omega) (fun w2 σ2 x2 g2 => ⟨_, rfl, rfl, TI_ask h hM eqi.rf x2.w2 g2⟩) (fun w2 w3 => by omega) (fun w2 w3 => by omega)
  · obtain ⟨t1, t2, t3, t4, t5, t6⟩ := tr.e w
    exact q_judge ht hx q1 q2 r1 r2 (by omega) (fun w2 => by omega) (fun w2 w3 _ σ2 x2 g2 => ⟨_, rfl, rfl, TI_ask h hM eqi.rf x2.w2 g2⟩) (fun w2 w3 y => absurd (t2 e) y)
  · obtain ⟨t1, t2, t3, t4, t5, t6⟩ := tr.e w
    have e44 := f1.1 44 (by decide)
    have e56 := f1.1 56 (by decide)
    have e57 := f1.1 57 (by decide)
    have e58 := f1.1 58 (by decide)
    rw [v1] at g1
    have ec : tel (lawR (σ 44 0) 0) (lawR (σ 44 0) 1) (fun k => σ 58 0 (40 * t + k).toNat) (σ 57 0 t.toNat).toNat 0 (σ 44 0) = tel (lawR (σ 44 0) 0) (lawR (σ 44 0) 1) (fun k => σ 36 t.toNat k.toNat) (σ 8 t.toNat 3).toNat 0 (σ 44 0) := by
      rw [t1]
      exact tel_c _ _ _ (fun i a b => (t5 i a (by omega)).symm)
    refine q_judge ht hx (by rw [e56, e57]; exact q1) (by rw [e58]; exact q2) (by rw [e44]; exact r1) (by rw [e44]; exact r2) (by rw [e44]; omega) (fun w2 => by omega) (fun w2 w3 y => absurd (by rw [e56] at y; exact y) (t3 e)) (fun w2 w3 y σ2 x2 g2 => ⟨_, rfl, ?_, TI_keep h hM f1 x2.w2 g1 i1 p1 (by rw [g2, e44])⟩)
    rw [e44, e58, e57, ec, v1]
theorem b_row {t : Int} (ht : in32 t) (h : TI M σ) (hM : M ≤ M') : Bth (d + 120) 130 254 [bo, .inl t] [mo, .inl t] σ (TI M') := by
  obtain ⟨⟨v1, v2, v3, r1, r2, r3, r4⟩, -, tr, -⟩ := id h
  obtain ⟨c1, c2⟩ := tr.c
  obtain ⟨q1, q2⟩ := tr.r
  refine c_row (m := σ 8 t.toNat 3) (f := fun k => σ 36 t.toNat k.toNat) ht rfl (fun _ => rfl) c1 c2 v2 (fun w => ?_) (fun w e => ?_) (fun w e n1 => ?_) (fun w e n1 n2 => ?_) (fun w e n1 n2 σ1 x1 => ?_)
  · exact q_row (m := σ 57 0 t.toNat) (f := fun k => σ 58 0 (40 * t + k).toNat) ht rfl (fun _ => rfl) q1 q2 r1 r2 (fun w2 σ2 x2 g2 => ⟨_, rfl, rfl, TI_ask h hM eqi.rf x2 g2⟩) (fun w2 => by omega) (fun w2 => by omega) (fun w2 => by omega) (fun w2 => by omega)
  · obtain ⟨t1, t2, t3, t4, t5, t6⟩ := tr.e w
    exact q_row (m := σ 57 0 t.toNat) (f := fun k => σ 58 0 (40 * t + k).toNat) ht rfl (fun _ => rfl) q1 q2 r1 r2 (fun w2 => by omega) (fun w2 _ σ2 x2 g2 => ⟨_, rfl, rfl, TI_ask h hM eqi.rf x2 g2⟩) (fun w2 x => absurd (t2 e) x) (fun w2 x => absurd (t2 e) x) (fun w2 x => absurd (t2 e) x)
  all_goals
    obtain ⟨t1, t2, t3, t4, t5, t6⟩ := tr.e w
    have ep : ppl (fun k => σ 58 0 (40 * t + k).toNat) (σ 44 0 2) (σ 57 0 t.toNat).toNat 0 0 = ppl (fun k => σ 36 t.toNat k.toNat) (σ 44 0 2) (σ 8 t.toNat 3).toNat 0 0 := by
      rw [t1]
      exact ppl_c _ _ _ (fun i a b => (t5 i a (by omega)).symm)
    try rw [v1] at n2
  · exact q_row (m := σ 57 0 t.toNat) (f := fun k => σ 58 0 (40 * t + k).toNat) ht rfl (fun _ => rfl) q1 q2 r1 r2 (fun w2 => by omega) (fun w2 x => absurd x (t3 e)) (fun w2 x y σ2 x2 g2 => ⟨_, rfl, rfl, TI_ask h hM eqi.rf x2 g2⟩) (fun w2 x y => by omega) (fun w2 x y => by omega)
  · exact q_row (m := σ 57 0 t.toNat) (f := fun k => σ 58 0 (40 * t + k).toNat) ht rfl (fun _ => rfl) q1 q2 r1 r2 (fun w2 => by omega) (fun w2 x => absurd x (t3 e)) (fun w2 x y => by omega) (fun w2 x y z σ2 x2 g2 => ⟨_, rfl, rfl, TI_ask h hM eqi.rf x2 g2⟩) (fun w2 x y z => absurd (by rw [ep] at z; exact z) n2)
  · have e44 := x1 44 (by decide)
    have e56 := x1 56 (by decide)
    have e57 := x1 57 (by decide)
    have e58 := x1 58 (by decide)
    refine q_row (m := σ 57 0 t.toNat) (f := fun k => σ 58 0 (40 * t + k).toNat) ht (by rw [e57]) (fun _ => by rw [e58]) (by rw [e56, e57]; exact q1) (by rw [e58]; exact q2) (by rw [e44]; exact r1) (by rw [e44]; exact r2) (fun w2 => by omega) (fun w2 x => absurd (by rw [e56] at x; exact x) (t3 e)) (fun w2 x y => by omega) (fun w2 x y z => absurd n2 (by rw [e44, ep] at z; exact z)) (fun w2 x y z σ2 x2 g2 => ⟨_, rfl, ?_, TI_ask h hM (x1.i (by decide)) x2 g2⟩)
    rw [e44, v1, t1, rowR_c (fun i a b => (t5 i a b).symm)]
end DEEDS10
