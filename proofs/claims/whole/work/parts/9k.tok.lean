/-! 9k: tokens: what class and reference see alike -/
def nxs (T : Int → Int) (L s : Int) : Int := lxS T L (lxE T L s)
def tnm (T : Int → Int) (L s : Int) : Int := nmv T (mn3 (lxD T L s - s)) s 0
noncomputable def flt (T : Int → Int) (L s : Int) : Int := if lxK T L s = 26 then 1 else 2
theorem whl_in {c : Int → Bool} : ∀ (n : Nat) (p i : Int), p ≤ i → i < whl c n p → c i = true := by
  intro n
  induction n with
  | zero => intro p i a b; have b : i < p := b; omega
  | succ n ih =>
    intro p i a b
    by_cases h : c p = true
    · rw [whl_t h] at b
      by_cases e : i = p
      · rw [e]; exact h
      · exact ih (p + 1) i (by omega) b
    · rw [whl_f h] at b
      omega
theorem whl_up {c : Int → Bool} {L s : Int} (hs : s < L) (h : c s = true) : s < whl c (L - s).toNat s := by
  rw [show (L - s).toNat = (L - s - 1).toNat + 1 by omega, whl_t h]
  have := whl_b (c := c) (L - s - 1).toNat (s + 1)
  omega
section TOK
variable {T : Int → Int} {L s p : Int}
theorem lxS_b (h : 0 ≤ p ∧ p ≤ L) : p ≤ lxS T L p ∧ lxS T L p ≤ L := by
  have := whl_b (c := wht T L) (L - p).toNat p
  unfold lxS
  omega
theorem lxW_b (h : 0 ≤ s ∧ s ≤ L) : s ≤ lxW T L s ∧ lxW T L s ≤ L := by
  have := whl_b (c := sml T L) (L - s).toNat s
  unfold lxW
  omega
theorem lxD_b (h : 0 ≤ s ∧ s ≤ L) : s ≤ lxD T L s ∧ lxD T L s ≤ L := by
  have := whl_b (c := dgt T L) (L - s).toNat s
  unfold lxD
  omega
theorem lxE_b (h : 0 ≤ s ∧ s ≤ L) : s ≤ lxE T L s ∧ lxE T L s ≤ L ∧ (s < L → s < lxE T L s) := by
  have a := lxW_b (T := T) h
  have b := lxD_b (T := T) h
  unfold lxE
  split
  · omega
  · split
    · rename_i c1 c2
      have : s < lxW T L s := whl_up (by omega) c2
      omega
    · split
      · rename_i c1 c2 c3
        have : s < lxD T L s := whl_up (by omega) c3
        omega
      · omega
theorem nxs_b (h : 0 ≤ s ∧ s ≤ L) : s ≤ nxs T L s ∧ nxs T L s ≤ L ∧ (s < L → s < nxs T L s) := by
  have a := lxE_b (T := T) h
  have b := lxS_b (T := T) (p := lxE T L s) (L := L) ⟨by omega, a.2.1⟩
  unfold nxs
  omega
theorem cif_or {c : Prop} {x y : Int} : (c ∧ cif c x y = x) ∨ (¬ c ∧ cif c x y = y) := by
  by_cases h : c
  · exact Or.inl ⟨h, cif_t h⟩
  · exact Or.inr ⟨h, cif_f h⟩
theorem kyF_r {e : Int} : ∀ (n : Nat) (i : Int), (kyF T s e n i = 23 ∧ ∀ j : Int, i ≤ j → j < i + n → ¬ wdB T s e (kno.getD j.toNat 0)) ∨ (i ≤ kyF T s e n i ∧ kyF T s e n i < i + n ∧ wdB T s e (kno.getD (kyF T s e n i).toNat 0)) := by
  intro n
  induction n with
  | zero => intro i; exact Or.inl ⟨rfl, fun j a b => by omega⟩
  | succ n ih =>
    intro i
    show ((cif (wdB T s e (kno.getD i.toNat 0)) i (kyF T s e n (i + 1))) = 23 ∧ _) ∨ (i ≤ (cif (wdB T s e (kno.getD i.toNat 0)) i (kyF T s e n (i + 1))) ∧ (cif (wdB T s e (kno.getD i.toNat 0)) i (kyF T s e n (i + 1))) < i + ((n + 1 : Nat) : Int) ∧ wdB T s e (kno.getD (cif (wdB T s e (kno.getD i.toNat 0)) i (kyF T s e n (i + 1))).toNat 0))
    rcases cif_or (c := wdB T s e (kno.getD i.toNat 0)) (x := i) (y := kyF T s e n (i + 1)) with ⟨h1, h2⟩ | ⟨h1, h2⟩
    · rw [h2]
      exact Or.inr ⟨by omega, by omega, h1⟩
    · rw [h2]
      rcases ih (i + 1) with ⟨h3, h4⟩ | ⟨h3, h4, h5⟩
      · refine Or.inl ⟨h3, fun j a b => ?_⟩
        by_cases ej : j = i
        · rw [ej]; exact h1
        · exact h4 j (by omega) (by omega)
      · exact Or.inr ⟨by omega, by omega, h5⟩
theorem kno_u : ∀ i j : Fin 23, sby (kno.getD i.val 0) = sby (kno.getD j.val 0) → i = j := by decide +kernel
theorem wdB_s {e : Int} {n m : Nat} (h1 : wdB T s e n) (h2 : wdB T s e m) : sby n = sby m := by
  have hl : (sby n).length = (sby m).length := by
    have a := h1.1
    have b := h2.1
    omega
  refine List.ext_getElem hl (fun i a b => ?_)
  have x := h1.2 (i : Int) (by omega) (by omega)
  have y := h2.2 (i : Int) (by omega) (by omega)
  rw [x] at y
  rw [Int.toNat_natCast, List.getD_eq_getElem?_getD, List.getD_eq_getElem?_getD, List.getElem?_eq_getElem a, List.getElem?_eq_getElem b] at y
  exact y
theorem wdB_u {e : Int} {i j : Int} (hi : 0 ≤ i ∧ i < 23) (hj : 0 ≤ j ∧ j < 23) (h1 : wdB T s e (kno.getD i.toNat 0)) (h2 : wdB T s e (kno.getD j.toNat 0)) : i = j := by
  have : sby (kno.getD i.toNat 0) = sby (kno.getD j.toNat 0) := wdB_s h1 h2
  have h := kno_u ⟨i.toNat, by omega⟩ ⟨j.toNat, by omega⟩ this
  have := congrArg Fin.val h
  simp only at this
  omega
theorem keyI_r {e : Int} : 0 ≤ keyI T s e ∧ keyI T s e ≤ 23 := by
  rcases kyF_r (T := T) (s := s) (e := e) 23 0 with ⟨h, _⟩ | ⟨h1, h2, _⟩
  · unfold keyI; omega
  · unfold keyI; omega
theorem keyI_i {e : Int} {i : Int} (hi : 0 ≤ i ∧ i < 23) : keyI T s e = i ↔ wdB T s e (kno.getD i.toNat 0) := by
  rcases kyF_r (T := T) (s := s) (e := e) 23 0 with ⟨h, h2⟩ | ⟨h1, h2, h3⟩
  · constructor
    · intro x
      unfold keyI at x
      omega
    · intro x
      exact absurd x (h2 i hi.1 (by omega))
  · constructor
    · intro x
      unfold keyI at x
      rw [x] at h3
      exact h3
    · intro x
      unfold keyI
      exact wdB_u ⟨h1, by omega⟩ hi h3 x
theorem sgL_r {c : Int} : ∀ (n : Nat) (i k : Int), 0 ≤ i → i + n ≤ 12 → (k = 26 ∨ (30 ≤ k ∧ k ≤ 41)) → (sgL c n i k = 26 ∨ (30 ≤ sgL c n i k ∧ sgL c n i k ≤ 41)) := by
  intro n
  induction n with
  | zero => intro i k _ _ h; exact h
  | succ n ih =>
    intro i k a b h
    refine ih (i + 1) _ (by omega) (by omega) ?_
    split
    · right; omega
    · exact h
theorem sgnK_r {c : Int} : sgnK c = 26 ∨ (30 ≤ sgnK c ∧ sgnK c ≤ 41) := sgL_r 12 0 26 (by decide) (by decide) (Or.inl rfl)
theorem lxK_r : (0 ≤ lxK T L s ∧ lxK T L s ≤ 26) ∨ (30 ≤ lxK T L s ∧ lxK T L s ≤ 41) := by
  have a := sgnK_r (c := T s)
  have b := keyI_r (T := T) (s := s) (e := lxW T L s)
  unfold lxK
  (repeat' split) <;> omega
theorem lxK_32 : in32 (lxK T L s) := by
  have := lxK_r (T := T) (L := L) (s := s)
  unfold in32
  omega
theorem lxK_25 : lxK T L s = 25 ↔ L ≤ s := by
  have a := sgnK_r (c := T s)
  have b := keyI_r (T := T) (s := s) (e := lxW T L s)
  unfold lxK
  (repeat' split) <;> omega
theorem cxK_32 : in32 (cxK T L s) := by
  unfold in32 cxK
  (repeat' split) <;> omega
theorem cxK_2 : cxK T L s = 2 ↔ lxK T L s = 24 := by
  have a := sgnK_r (c := T s)
  have b := keyI_r (T := T) (s := s) (e := lxW T L s)
  unfold lxK cxK
  (repeat' split) <;> omega
theorem cxK_4 : cxK T L s = 4 ↔ lxK T L s = 26 := by
  have a := sgnK_r (c := T s)
  have b := keyI_r (T := T) (s := s) (e := lxW T L s)
  unfold lxK cxK
  (repeat' split) <;> omega
theorem cxK_0 : cxK T L s = 0 ↔ lxK T L s = 25 := by
  have a := sgnK_r (c := T s)
  have b := keyI_r (T := T) (s := s) (e := lxW T L s)
  unfold lxK cxK
  (repeat' split) <;> omega
theorem cxK_1 : cxK T L s = 1 ↔ lxK T L s ≤ 23 := by
  have a := sgnK_r (c := T s)
  have b := keyI_r (T := T) (s := s) (e := lxW T L s)
  unfold lxK cxK
  (repeat' split) <;> omega
theorem cxK_3 : cxK T L s = 3 → s < L := by
  unfold cxK
  (repeat' split) <;> omega
theorem cxE_e (h : ¬ lxK T L s = 26) : cxE T L s = lxE T L s := by
  unfold cxE lxE
  unfold lxK at h
  (repeat' split) <;> simp_all
theorem cxE_b (h : 0 ≤ s ∧ s ≤ L) : s ≤ cxE T L s ∧ cxE T L s ≤ L := by
  have a := lxW_b (T := T) h
  have b := lxD_b (T := T) h
  unfold cxE
  (repeat' split) <;> omega
theorem cflt : (if cxK T L s = 4 then (1 : Int) else 2) = flt T L s := by
  unfold flt
  by_cases c : lxK T L s = 26
  · rw [if_pos c, if_pos (cxK_4.mpr c)]
  · rw [if_neg c, if_neg (fun x => c (cxK_4.mp x))]
theorem flt_b : flt T L s = 1 ∨ flt T L s = 2 := by
  unfold flt
  split
  · exact Or.inl rfl
  · exact Or.inr rfl
theorem wd_i {i : Int} (hi : 0 ≤ i ∧ i < 23) : (cxK T L s = 1 ∧ wdB T s (cxE T L s) (kno.getD i.toNat 0)) ↔ lxK T L s = i := by
  have b := keyI_r (T := T) (s := s) (e := lxW T L s)
  have a := sgnK_r (c := T s)
  by_cases c : ¬ L ≤ s ∧ sml T L s = true
  · have e1 : cxK T L s = 1 := by unfold cxK; rw [if_neg c.1, if_pos c.2]
    have e2 : cxE T L s = lxW T L s := by unfold cxE; rw [if_neg c.1, if_pos c.2]
    have e3 : lxK T L s = keyI T s (lxW T L s) := by unfold lxK; rw [if_neg c.1, if_pos c.2]
    rw [e1, e2, e3, keyI_i hi]
    exact ⟨fun x => x.2, fun x => ⟨rfl, x⟩⟩
  · constructor
    · intro x
      have x := x.1
      unfold cxK at x
      revert x
      (repeat' split) <;> intro x <;> first | omega | exact absurd ⟨by assumption, by assumption⟩ c
    · intro x
      unfold lxK at x
      revert x
      (repeat' split) <;> intro x <;> first | omega | exact absurd ⟨by assumption, by assumption⟩ c
theorem sg_u : ∀ i j : Fin 12, (sby 0).getD i.val 0 = (sby 0).getD j.val 0 → i = j := by decide +kernel
theorem sg_i {i v : Int} (hi : 0 ≤ i ∧ i < 12) (hv : (sby 0).getD i.toNat 0 = v) (hT : s < L → 0 ≤ T s ∧ T s < 256) : (cxK T L s = 3 ∧ T s = v) ↔ lxK T L s = 30 + i := by
  have b := keyI_r (T := T) (s := s) (e := lxW T L s)
  by_cases c : ¬ L ≤ s ∧ ¬ sml T L s = true ∧ ¬ dgt T L s = true
  · have e1 : cxK T L s = if sgnK (T s) = 26 then 4 else 3 := by unfold cxK; rw [if_neg c.1, if_neg c.2.1, if_neg c.2.2]
    have e3 : lxK T L s = sgnK (T s) := by unfold lxK; rw [if_neg c.1, if_neg c.2.1, if_neg c.2.2]
    rw [e1, e3]
    rcases sgn_s (hT (by omega)) with ⟨h1, h2⟩ | ⟨h1, r, r1, r2, r3, r4⟩
    · rw [if_pos h1, h1]
      constructor
      · intro x; omega
      · intro x; omega
    · rw [if_neg h1, r4]
      constructor
      · intro x
        have := sg_u ⟨r.toNat, by omega⟩ ⟨i.toNat, by omega⟩ (by show (sby 0).getD r.toNat 0 = (sby 0).getD i.toNat 0; rw [r3, hv]; exact x.2)
        have := congrArg Fin.val this
        simp only at this
        omega
      · intro x
        have : r = i := by omega
        rw [this] at r3
        exact ⟨rfl, by rw [← r3]; exact hv⟩
  · constructor
    · intro x
      have x := x.1
      unfold cxK at x
      revert x
      (repeat' split) <;> intro x <;> first | omega | exact absurd ⟨by assumption, by assumption, by assumption⟩ c
    · intro x
      unfold lxK at x
      revert x
      (repeat' split) <;> intro x <;> first | omega | exact absurd ⟨by assumption, by assumption, by assumption⟩ c
theorem tnm_b (h : lxK T L s = 24) : 0 ≤ tnm T L s ∧ tnm T L s ≤ 999 := by
  have a := sgnK_r (c := T s)
  have b := keyI_r (T := T) (s := s) (e := lxW T L s)
  have hd : lxD T L s - s ≤ 3 := by
    unfold lxK at h
    revert h
    (repeat' split) <;> intro h <;> omega
  have hi : ∀ i : Int, s ≤ i → i < lxD T L s → 48 ≤ T i ∧ T i ≤ 57 := fun i x y => (of_decide_eq_true (whl_in (c := dgt T L) (L - s).toNat s i x y)).2
  unfold tnm mn3
  rw [if_pos hd]
  by_cases c0 : lxD T L s - s ≤ 0
  · rw [show (lxD T L s - s).toNat = 0 by omega]
    show 0 ≤ (0 : Int) ∧ (0 : Int) ≤ 999
    omega
  · have x0 := hi s (by omega) (by omega)
    by_cases c1 : lxD T L s - s = 1
    · rw [c1]
      show 0 ≤ 10 * 0 + T s - 48 ∧ 10 * 0 + T s - 48 ≤ 999
      omega
    · have x1 := hi (s + 1) (by omega) (by omega)
      by_cases c2 : lxD T L s - s = 2
      · rw [c2]
        show 0 ≤ 10 * (10 * 0 + T s - 48) + T (s + 1) - 48 ∧ 10 * (10 * 0 + T s - 48) + T (s + 1) - 48 ≤ 999
        omega
      · have x2 := hi (s + 1 + 1) (by omega) (by omega)
        rw [show lxD T L s - s = 3 by omega]
        show 0 ≤ 10 * (10 * (10 * 0 + T s - 48) + T (s + 1) - 48) + T (s + 1 + 1) - 48 ∧ 10 * (10 * (10 * 0 + T s - 48) + T (s + 1) - 48) + T (s + 1 + 1) - 48 ≤ 999
        omega
theorem lxN_24 {v : Int} (h : lxK T L s = 24) : lxN T L s v = tnm T L s := by
  have a := sgnK_r (c := T s)
  have b := keyI_r (T := T) (s := s) (e := lxW T L s)
  unfold lxK at h
  unfold lxN tnm
  revert h
  (repeat' split) <;> intro h <;> first | rfl | omega
theorem nmv3_b {m : Nat} (hm : m ≤ 3) (hi : ∀ i : Int, s ≤ i → i < s + m → 48 ≤ T i ∧ T i ≤ 57) : 0 ≤ nmv T m s 0 ∧ nmv T m s 0 ≤ 999 := by
  have hm : m = 0 ∨ m = 1 ∨ m = 2 ∨ m = 3 := by omega
  rcases hm with rfl | rfl | rfl | rfl
  · show 0 ≤ (0 : Int) ∧ (0 : Int) ≤ 999
    omega
  · have x0 := hi s (by omega) (by omega)
    show 0 ≤ 10 * 0 + T s - 48 ∧ 10 * 0 + T s - 48 ≤ 999
    omega
  · have x0 := hi s (by omega) (by omega)
    have x1 := hi (s + 1) (by omega) (by omega)
    show 0 ≤ 10 * (10 * 0 + T s - 48) + T (s + 1) - 48 ∧ 10 * (10 * 0 + T s - 48) + T (s + 1) - 48 ≤ 999
    omega
  · have x0 := hi s (by omega) (by omega)
    have x1 := hi (s + 1) (by omega) (by omega)
    have x2 := hi (s + 1 + 1) (by omega) (by omega)
    show 0 ≤ 10 * (10 * (10 * 0 + T s - 48) + T (s + 1) - 48) + T (s + 1 + 1) - 48 ∧ 10 * (10 * (10 * 0 + T s - 48) + T (s + 1) - 48) + T (s + 1 + 1) - 48 ≤ 999
    omega
/-- whatever stands there, the number is an int -/
theorem lxN_b {v : Int} (hv : in32 v) : in32 (lxN T L s v) := by
  unfold lxN
  split
  · exact hv
  · split
    · exact hv
    · split
      · have : 0 ≤ nmv T (mn3 (lxD T L s - s)) s 0 ∧ nmv T (mn3 (lxD T L s - s)) s 0 ≤ 999 := by
          refine nmv3_b (by unfold mn3; split <;> omega) (fun i x y => (of_decide_eq_true (whl_in (c := dgt T L) (L - s).toNat s i x ?_)).2)
          have e : lxD T L s = whl (dgt T L) (L - s).toNat s := rfl
          rw [← e]
          unfold mn3 at y
          split at y <;> omega
        exact ⟨by omega, by omega⟩
      · exact hv
end TOK
