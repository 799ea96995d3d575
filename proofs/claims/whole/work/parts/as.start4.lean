/-! as: at the start class and reference are tied -/
section START4
variable {σ : Mem}
theorem z0_V : ∀ j : Fin 72, (j.val < 4 ∨ 10 ≤ j.val) → V s0 0 (fun _ => 0) j.val = if j.val = 1 then 1 else 0 := by decide +kernel
theorem z0_a : pln s0 0 = 0 ∧ s0 60 0 0 = 5 ∧ s0 61 24 0 = 0 ∧ s0 61 25 0 = 0 ∧ s0 2 0 1 = 0 ∧ s0 2 0 2 = 0 ∧ s0 12 0 5 = 0 ∧ s0 11 0 13 = 0 ∧ s0 4 0 10 = 0 ∧ s0 12 0 13 = 0 ∧ s0 4 0 11 = -1 ∧ s0 12 0 14 = -1 ∧ s0 4 0 9 = 4 := by decide +kernel
theorem z0_i : ∀ i : Fin 2, s0 43 0 i.val = 0 ∧ s0 45 0 i.val = 0 ∧ (s0 10 (2 + i.val) 3).toNat < 5 := by decide +kernel
theorem z0_t : ∀ i : Fin 4, s0 8 i.val 1 = 1 ∧ s0 8 i.val 2 = 0 ∧ s0 8 i.val 3 = 0 ∧ s0 56 0 i.val = -1 ∧ s0 57 0 i.val = 0 ∧ (∀ k : Fin 40, s0 36 i.val k.val = 0 ∧ s0 58 0 (40 * i.val + k.val) = 0) := by decide +kernel
theorem ok_plain {a : BV} (z : ∀ j : Nat, j < 1514 → a j = if j = 1 then 1 else 0) : OkA a := by
  have z0 : ∀ j : Nat, j < 1514 → ¬ j = 1 → a j = 0 := fun j h h2 => by rw [z j h, if_neg h2]
  have z1 : a 1 = 1 := z 1 (by decide)
  refine ⟨by omega, by rw [z0 2 (by decide) (by decide)]; decide, by rw [z0 3 (by decide) (by decide)]; decide, fun k hk => by rw [z0 (10 + k) (by omega) (by omega)]; decide, by rw [z0 18 (by decide) (by decide)]; decide, Or.inl (z0 19 (by decide) (by decide)), trivial, by rw [z0 21 (by decide) (by decide)]; decide, fun k hk => by rw [z0 (22 + k) (by omega) (by omega)]; decide, fun p hp => by rw [z0 (30 + p) (by omega) (by omega), z1]; decide, fun k hk => by rw [z0 (36 + k) (by omega) (by omega)]; decide, fun p hp => z0 _ (by omega) (by omega), fun p q hp hq _ => z0 _ (by omega) (by omega), fun k _ => by rw [z0 21 (by decide) (by decide)]; simp⟩
theorem TI_start {σ : Mem} (h : eqx [44] s0 σ) (z : ∀ j : Nat, j < 1514 → σ 44 0 j = if j = 1 then 1 else 0) : TI 999 σ := by
  obtain ⟨g1, g2, g3, g4, g5, g6, g7, g8, g9, g10, g11, g12, g13⟩ := z0_a
  have z0 : ∀ j : Nat, j < 1514 → ¬ j = 1 → σ 44 0 j = 0 := fun j h h2 => by rw [z j h, if_neg h2]
  have ho : OkA (σ 44 0) := ok_plain z
  have hlr : ∀ law : Nat, law < 2 → lawR (σ 44 0) law = [] := fun law hl => by
    unfold lawR
    rw [if_pos (z0 _ (by omega) (by omega))]
  have hla : LawA (σ 44 0) := fun law hl => ⟨Or.inl (z0 _ (by omega) (by omega)), fun x => (by rw [z0 _ (by omega) (by omega)] at x; cases x), Or.inl (hlr law hl)⟩
  have e : ∀ K : Nat, ¬ K = 44 → σ K = s0 K := fun K hK => h K (by simpa using hK)
  have hV : V σ 0 (σ 44 0) = σ 44 0 := by
    rw [V_x h (by decide)]
    funext j
    by_cases c : j < 4 ∨ (10 ≤ j ∧ j < 72)
    · rw [V_ag (A := fun _ => 0) c, z0_V ⟨j, by omega⟩ (by show j < 4 ∨ 10 ≤ j; omega), z j (by omega)]
    · rw [V_ot c]
  have h72 : σ 44 0 72 = 0 := z0 72 (by decide) (by decide)
  have p0 : pln σ 0 = 0 := by
    unfold pln
    rw [e 10 (by decide)]
    exact g1
  refine ⟨⟨hV, ⟨by decide, ?_, by rw [hV]; exact ho, ?_, ?_, Or.inl (hlr 0 (by decide)), Or.inl (hlr 1 (by decide))⟩, ⟨?_, ?_, by omega, fun k j hk => by omega⟩, ho, hla, by rw [z0 18 (by decide) (by decide)]; decide, fun k hk => by omega⟩, fun i hi => ?_, fun i hi => ?_, ⟨?_, ?_, fun j hj => ?_, ?_, ?_⟩, ?_, ?_⟩
  · rw [p0, e 60 (by decide), g2]; decide
  · rw [p0, hlr 0 (by decide)]
    refine ⟨?_, by decide, fun i c x => by cases x⟩
    rw [e 61 (by decide), g3]; rfl
  · rw [p0, hlr 1 (by decide)]
    refine ⟨?_, by decide, fun i c x => by cases x⟩
    rw [e 61 (by decide), g4]; rfl
  · rw [e 2 (by decide), g5]; decide
  · rw [e 2 (by decide), g6, h72]
  · obtain ⟨k1, k2, k3⟩ := z0_i ⟨i, hi⟩
    have k1 : s0 43 0 i = 0 := k1
    have k2 : s0 45 0 i = 0 := k2
    have k3 : (s0 10 (2 + i) 3).toNat < 5 := k3
    rw [e 43 (by decide), e 45 (by decide), e 10 (by decide), k1, k2]
    refine ⟨rfl, Or.inl rfl, ?_, fun x => by cases x⟩
    unfold npl
    rw [e 60 (by decide), g2]
    exact k3
  · obtain ⟨k1, k2, k3, k4, k5, k6⟩ := z0_t ⟨i, hi⟩
    have k1 : s0 8 i 1 = 1 := k1
    have k2 : s0 8 i 2 = 0 := k2
    have k3 : s0 8 i 3 = 0 := k3
    have k4 : s0 56 0 i = -1 := k4
    have k5 : s0 57 0 i = 0 := k5
    rw [e 8 (by decide), e 56 (by decide), e 57 (by decide), e 36 (by decide), e 58 (by decide), k1, k2, k3, k4, k5]
    refine ⟨Or.inr rfl, by decide, by decide, by decide, by decide, rfl, fun x => (by cases x), fun k hk => ?_, fun k hk => by omega⟩
    obtain ⟨m1, m2⟩ := k6 ⟨k, hk⟩
    have m1 : s0 36 i k = 0 := m1
    have m2 : s0 58 0 (40 * i + k) = 0 := m2
    rw [m1, m2]
    unfold in64
    decide
  · rw [e 12 (by decide), g7]; decide
  · rw [e 11 (by decide), e 12 (by decide), g7, g8]
  · rw [e 12 (by decide), g7] at hj
    omega
  · rw [e 4 (by decide), e 12 (by decide), g9, g10]
  · rw [e 4 (by decide), e 12 (by decide), g11, g12]
  · rw [e 60 (by decide), g2]; decide
  · unfold npl
    rw [e 4 (by decide), e 60 (by decide), g2, g13]; decide
end START4
