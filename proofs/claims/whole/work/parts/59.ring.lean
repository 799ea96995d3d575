/-! 59: a ring of people: mathematics -/
theorem ppl_spec {f : Int → Int} {P : Int} (hP : P ≤ 6) : ∀ (n : Nat) (k s : Int), 0 ≤ s ∧ s < 256 → ppl f P n k s → (∀ i : Int, k ≤ i → i < k + n → (0 ≤ f i ∧ f i < P) ∧ s / 2 ^ (f i).toNat % 2 = 0) ∧ ∀ i j : Int, k ≤ i → i < j → j < k + n → ¬ f i = f j := by
  intro n
  induction n with
  | zero => intro k s _ _; exact ⟨fun i a b => by omega, fun i j a b c => by omega⟩
  | succ n ih =>
    intro k s hs h
    obtain ⟨h1, h2, h3⟩ := h
    have hb := ior_b hs (k := (f k).toNat) (by omega)
    obtain ⟨g1, g2⟩ := ih (k + 1) _ hb.1 h3
    have key : ∀ i : Int, k + 1 ≤ i → i < k + 1 + n → ¬ f i = f k ∧ s / 2 ^ (f i).toNat % 2 = 0 := fun i a b => by
      have := (g1 i a b).2
      rw [hb.2] at this
      by_cases c : (f i).toNat = (f k).toNat
      · rw [if_pos c] at this
        omega
      · rw [if_neg c] at this
        exact ⟨fun e => c (by rw [e]), this⟩
    refine ⟨fun i a b => ?_, fun i j a b c => ?_⟩
    · by_cases e : i = k
      · subst e
        exact ⟨h1, h2⟩
      · exact ⟨(g1 i (by omega) (by omega)).1, (key i (by omega) (by omega)).2⟩
    · by_cases e : i = k
      · subst e
        exact fun x => (key j (by omega) (by omega)).1 x.symm
      · exact g2 i j (by omega) b (by omega)
/-- where the k-th paper of a ring lies -/
def rix (f : Int → Int) (m k : Int) : Nat := (36 + 6 * f k + f ((k + 1) % m)).toNat
/-- a ring's first n papers are less by L -/
def rgA (a : BV) (f : Int → Int) (m L : Int) : Nat → BV
  | 0 => a
  | n + 1 => vu (rgA a f m L n) (rix f m n) (rgA a f m L n (rix f m n) - L)
theorem rgA_keep {a : BV} {f : Int → Int} {m L : Int} {j : Nat} : ∀ n : Nat, (∀ i : Nat, i < n → ¬ j = rix f m i) → rgA a f m L n j = a j := by
  intro n
  induction n with
  | zero => intro _; rfl
  | succ n ih =>
    intro h
    show vu (rgA a f m L n) (rix f m n) (rgA a f m L n (rix f m n) - L) j = a j
    rw [vu_ne (h n (by omega)), ih (fun i hi => h i (by omega))]
theorem rmod {m k : Int} (hm : 2 ≤ m) (hk : 0 ≤ k ∧ k < m) : (k + 1) % m = if k + 1 < m then k + 1 else 0 := by
  split
  · exact Int.emod_eq_of_lt (by omega) (by omega)
  · rw [show k + 1 = m by omega, Int.emod_self]
theorem rix_b {f : Int → Int} {m k : Int} (hm : 2 ≤ m) (hk : 0 ≤ k ∧ k < m) (hp : ∀ k : Int, 0 ≤ k → k < m → 0 ≤ f k ∧ f k < 6) : 36 ≤ rix f m k ∧ rix f m k < 72 := by
  unfold rix
  have h1 := hp k hk.1 hk.2
  have h2 := hp ((k + 1) % m) (Int.emod_nonneg _ (by omega)) (Int.emod_lt_of_pos _ (by omega))
  omega
theorem rix_ne {f : Int → Int} {m i k : Int} (hm : 2 ≤ m) (hi : 0 ≤ i) (hik : i < k) (hk : k < m) (hp : ∀ k : Int, 0 ≤ k → k < m → 0 ≤ f k ∧ f k < 6) (hd : ∀ i j : Int, 0 ≤ i → i < j → j < m → ¬ f i = f j) : ¬ rix f m k = rix f m i := by
  unfold rix
  have h1 := hp k (by omega) hk
  have h2 := hp ((k + 1) % m) (Int.emod_nonneg _ (by omega)) (Int.emod_lt_of_pos _ (by omega))
  have h3 := hp i hi (by omega)
  have h4 := hp ((i + 1) % m) (Int.emod_nonneg _ (by omega)) (Int.emod_lt_of_pos _ (by omega))
  have := hd i k hi hik hk
  omega
theorem rgA_ok {a : BV} {f : Int → Int} {m L : Int} (ho : OkA a) (hm : 2 ≤ m) (hL : 0 ≤ L) (hp : ∀ k : Int, 0 ≤ k → k < m → 0 ≤ f k ∧ f k < 6) (hd : ∀ i j : Int, 0 ≤ i → i < j → j < m → ¬ f i = f j) (hg : ∀ k : Int, 0 ≤ k → k < m → L ≤ rg a f m k) : ∀ n : Nat, (n : Int) ≤ m → OkA (rgA a f m L n) ∧ eqH a (rgA a f m L n) := by
  intro n
  induction n with
  | zero => intro _; exact ⟨ho, fun _ _ => rfl⟩
  | succ n ih =>
    intro h
    obtain ⟨h1, h2⟩ := ih (by omega)
    have hb := rix_b (f := f) (k := n) hm ⟨by omega, by omega⟩ hp
    have e : rgA a f m L n (rix f m n) = a (rix f m n) := rgA_keep n (fun i hi => rix_ne hm (by omega) (by omega) (by omega) hp hd)
    have hg' : L ≤ a (rix f m n) := hg n (by omega) (by omega)
    refine ⟨vu_ok h1 (Or.inr (Or.inr (Or.inr (Or.inr (Or.inr (Or.inr ⟨by omega, by omega, by omega, by omega⟩)))))), h2.tr (vu_h (by omega))⟩
