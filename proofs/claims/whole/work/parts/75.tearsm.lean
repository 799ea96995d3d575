/-! 75: the fewest papers to be torn: mathematics -/
/-- papers of p to those of the set s below n torn -/
def torN (a : BV) (p s : Int) : Nat → BV
  | 0 => a
  | n + 1 => if s / 2 ^ n % 2 = 1 then torA (torN a p s n) p n else torN a p s n
theorem torN_ok {a : BV} {p s : Int} (ho : OkA a) (hp : 0 ≤ p ∧ p < 6) : ∀ n : Nat, n ≤ 6 → OkA (torN a p s n) ∧ eqH a (torN a p s n) := by
  intro n
  induction n with
  | zero => intro _; exact ⟨ho, fun _ _ => rfl⟩
  | succ n ih =>
    intro h
    obtain ⟨h1, h2⟩ := ih (by omega)
    unfold torN
    split
    · exact ⟨torA_ok h1 hp ⟨by omega, by omega⟩, h2.tr (torA_h hp ⟨by omega, by omega⟩)⟩
    · exact ⟨h1, h2⟩
theorem torN_keep {a : BV} {p s : Int} (hp : 0 ≤ p) {j : Nat} : ∀ n : Nat, 36 + 6 * p + n ≤ (j : Int) → torN a p s n j = a j := by
  intro n
  induction n with
  | zero => intro _; rfl
  | succ n ih =>
    intro h
    unfold torN
    split
    · unfold torA
      rw [vu_ne (by omega), ih (by omega)]
    · exact ih (by omega)
theorem vu_id {a : BV} {k : Nat} {v : Int} (h : a k = v) : vu a k v = a := by
  funext j
  unfold vu
  split
  · rename_i e; rw [e, h]
  · rfl
theorem torN_same {a : BV} {p s s' : Int} (hp : 0 ≤ p ∧ p < 6) : ∀ n : Nat, (∀ q : Nat, q < n → (s / 2 ^ q % 2 = 1 ↔ s' / 2 ^ q % 2 = 1) ∨ dz a p q = 0) → torN a p s n = torN a p s' n := by
  intro n
  induction n with
  | zero => intro _; rfl
  | succ n ih =>
    intro h
    have ih := ih (fun q hq => h q (by omega))
    unfold torN
    rw [ih]
    rcases h n (by omega) with c | c
    · by_cases c1 : s / 2 ^ n % 2 = 1
      · rw [if_pos c1, if_pos (c.mp c1)]
      · rw [if_neg c1, if_neg (fun x => c1 (c.mpr x))]
    · have e : torA (torN a p s' n) p n = torN a p s' n := by
        unfold torA
        refine vu_id ?_
        rw [torN_keep hp.1 n (by omega)]
        exact c
      rw [e]
      (repeat' split) <;> rfl
/-- the first of the fewest, from s on, of n, of which A holds; m: the best so far -/
noncomputable def frs (A : Int → Prop) : Nat → Int → Int → Int
  | 0, _, m => m
  | n + 1, s, m => frs A n (s + 1) (cif ((m = -1 ∨ pcz s < pcz m) ∧ A s) s m)
theorem frs_b {A : Int → Prop} : ∀ (n : Nat) (s m : Int), 0 ≤ s → (m = -1 ∨ (0 ≤ m ∧ m < s)) → frs A n s m = -1 ∨ (0 ≤ frs A n s m ∧ frs A n s m < s + n) := by
  intro n
  induction n with
  | zero => intro s m h hm; show m = -1 ∨ (0 ≤ m ∧ m < s + 0); omega
  | succ n ih =>
    intro s m h hm
    have := ih (s + 1) (cif ((m = -1 ∨ pcz s < pcz m) ∧ A s) s m) (by omega) (by
      rcases cif_c ((m = -1 ∨ pcz s < pcz m) ∧ A s) s m with e | e <;> rw [e] <;> omega)
    show frs A n (s + 1) _ = -1 ∨ (0 ≤ frs A n (s + 1) _ ∧ frs A n (s + 1) _ < s + ((n + 1 : Nat) : Int))
    omega
theorem frs_none {A : Int → Prop} : ∀ (n : Nat) (s m : Int), (∀ i : Int, s ≤ i → i < s + n → ¬ A i) → frs A n s m = m := by
  intro n
  induction n with
  | zero => intro s m _; rfl
  | succ n ih =>
    intro s m h
    show frs A n (s + 1) (cif ((m = -1 ∨ pcz s < pcz m) ∧ A s) s m) = m
    rw [cif_f (fun x => h s (by omega) (by omega) x.2)]
    exact ih (s + 1) m (fun i a b => h i (by omega) (by omega))
theorem frs_add {A : Int → Prop} : ∀ (n k : Nat) (s m : Int), frs A (n + k) s m = frs A k (s + n) (frs A n s m) := by
  intro n
  induction n with
  | zero => intro k s m; simp [frs]
  | succ n ih =>
    intro k s m
    rw [show n + 1 + k = (n + k) + 1 by omega]
    show frs A (n + k) (s + 1) _ = frs A k _ (frs A n (s + 1) _)
    rw [ih k (s + 1), show s + 1 + (n : Int) = s + ((n + 1 : Nat) : Int) by omega]
/-- a set among another one, as the reference asks -/
def subs (s t : Int) : Prop := iand s (ixor t (-1)) = 0
theorem sub_dec : ∀ s t : Fin 64, (iand (s.val : Int) (ixor (t.val : Int) (-1)) = 0 ∧ s.val ≤ t.val ∧ s.val &&& t.val = s.val) ∨ (¬ iand (s.val : Int) (ixor (t.val : Int) (-1)) = 0 ∧ s.val &&& t.val < s.val ∧ pcz ((s.val &&& t.val : Nat) : Int) < pcz (s.val : Int) ∧ iand ((s.val &&& t.val : Nat) : Int) (ixor (t.val : Int) (-1)) = 0) := by decide +kernel
theorem bit_and (x y k : Nat) : ((x &&& y : Nat) : Int) / 2 ^ k % 2 = 1 ↔ ((x : Int) / 2 ^ k % 2 = 1 ∧ (y : Int) / 2 ^ k % 2 = 1) := by
  have e : ∀ z : Nat, ((z : Int) / 2 ^ k % 2 = 1 ↔ z.testBit k = true) := fun z => by
    rw [Nat.testBit_eq_decide_div_mod_eq, decide_eq_true_iff]
    have : ((z / 2 ^ k % 2 : Nat) : Int) = (z : Int) / 2 ^ k % 2 := by push_cast; rfl
    omega
  rw [e, e, e, Nat.testBit_and, Bool.and_eq_true]
/-- whose papers one has -/
noncomputable def ppr (a : BV) (p : Int) : Int := bset (fun q => 0 < dz a p q) (a 2).toNat
/-- one gets over with these papers torn -/
def gets (a : BV) (lw ll : List Int) (p s : Int) : Prop := mStop (torN a p s (a 2).toNat) lw ll p = -1
theorem gets_and {a : BV} {lw ll : List Int} {p : Int} (ho : OkA a) (hp : 0 ≤ p ∧ p < 6) {s t : Nat} (ht : (t : Int) = ppr a p) : gets a lw ll p s ↔ gets a lw ll p ((s &&& t : Nat) : Int) := by
  have hP := ho.P
  unfold gets
  rw [torN_same (s := s) (s' := ((s &&& t : Nat) : Int)) hp (a 2).toNat (fun q hq => ?_)]
  by_cases c : dz a p q = 0
  · exact Or.inr c
  · refine Or.inl ?_
    have hd := ho.debt hp (q := q) ⟨by omega, by omega⟩
    have hb := bset_bit (fun q => 0 < dz a p q) (a 2).toNat q
    rw [cif_t ⟨hq, by omega⟩] at hb
    have hb : (t : Int) / 2 ^ q % 2 = 1 := by rw [ht]; exact hb
    rw [bit_and]
    exact ⟨fun x => ⟨x, hb⟩, fun x => x.1⟩
/-- all sets, or those of papers alone: the same fewest -/
theorem frs_eq {a : BV} {lw ll : List Int} {p : Int} (ho : OkA a) (hp : 0 ≤ p ∧ p < 6) : frs (gets a lw ll p) (2 ^ (a 2).toNat) 0 (-1) = frs (fun s => subs s (ppr a p) ∧ gets a lw ll p s) ((ppr a p).toNat + 1) 0 (-1) := by
  have hP := ho.P
  have hb := bset_lt (fun q => 0 < dz a p q) (a 2).toNat
  have h64 : (2 : Nat) ^ (a 2).toNat ≤ 2 ^ 6 := Nat.pow_le_pow_right (by decide) (by omega)
  have e6 : (2 : Nat) ^ 6 = 64 := by decide
  have hpow : ((2 ^ (a 2).toNat : Nat) : Int) = 2 ^ (a 2).toNat := by push_cast; rfl
  obtain ⟨t, ht⟩ : ∃ t : Nat, (t : Int) = ppr a p := ⟨(ppr a p).toNat, by unfold ppr; omega⟩
  have hbt : (t : Int) < 2 ^ (a 2).toNat := by rw [ht]; exact hb.2
  have ht64 : t < 64 := by omega
  have H : ∀ (n : Nat) (s : Nat) (m : Int), s + n ≤ 64 → (m = -1 ∨ 0 ≤ m) → (∀ T : Nat, T < s → subs T (ppr a p) → gets a lw ll p T → ¬ m = -1 ∧ pcz m ≤ pcz T) → frs (gets a lw ll p) n s m = frs (fun s => subs s (ppr a p) ∧ gets a lw ll p s) n s m := by
    intro n
    induction n with
    | zero => intro s m _ _ _; rfl
    | succ n ih =>
      intro s m hs hm hI
      have hd := sub_dec ⟨s, by omega⟩ ⟨t, ht64⟩
      simp only [ht] at hd
      show frs (gets a lw ll p) n ((s : Int) + 1) (cif ((m = -1 ∨ pcz s < pcz m) ∧ gets a lw ll p s) s m) = frs (fun s => subs s (ppr a p) ∧ gets a lw ll p s) n ((s : Int) + 1) (cif ((m = -1 ∨ pcz s < pcz m) ∧ (subs s (ppr a p) ∧ gets a lw ll p s)) s m)
      have e1 : cif ((m = -1 ∨ pcz s < pcz m) ∧ gets a lw ll p s) s m = cif ((m = -1 ∨ pcz s < pcz m) ∧ (subs s (ppr a p) ∧ gets a lw ll p s)) s m := by
        rcases hd with hd | hd
        · rcases Classical.em ((m = -1 ∨ pcz s < pcz m) ∧ gets a lw ll p s) with c | c
          · rw [cif_t c, cif_t ⟨c.1, hd.1, c.2⟩]
          · rw [cif_f c, cif_f (fun x => c ⟨x.1, x.2.2⟩)]
        · have nc : ¬ ((m = -1 ∨ pcz s < pcz m) ∧ gets a lw ll p s) := fun ⟨x1, x2⟩ => by
            have g := (gets_and ho hp ht).mp x2
            have := hI (s &&& t) hd.2.1 hd.2.2.2 g
            have := hd.2.2.1
            omega
          rw [cif_f nc, cif_f (fun x => nc ⟨x.1, x.2.2⟩)]
      rw [← e1]
      have := ih (s + 1) (cif ((m = -1 ∨ pcz s < pcz m) ∧ gets a lw ll p s) s m) (by omega) (by rcases cif_c ((m = -1 ∨ pcz s < pcz m) ∧ gets a lw ll p s) s m with e | e <;> rw [e] <;> omega) (fun T hT h1 h2 => ?_)
      · push_cast at this
        exact this
      · by_cases cT : T = s
        · subst cT
          rcases Classical.em (m = -1 ∨ pcz T < pcz m) with c | c
          · rw [cif_t ⟨c, h2⟩]
            exact ⟨by omega, Int.le_refl _⟩
          · rw [cif_f (fun x => c x.1)]
            exact ⟨fun x => c (Or.inl x), by omega⟩
        · have h9 := hI T (by omega) h1 h2
          rcases Classical.em ((m = -1 ∨ pcz s < pcz m) ∧ gets a lw ll p s) with c | c
          · rw [cif_t c]
            exact ⟨by omega, by omega⟩
          · rw [cif_f c]
            exact h9
  have h1 := H (2 ^ (a 2).toNat) 0 (-1) (by omega) (Or.inl rfl) (fun T hT => by omega)
  rw [show ((0 : Nat) : Int) = 0 from rfl] at h1
  rw [h1]
  have e2 : 2 ^ (a 2).toNat = ((ppr a p).toNat + 1) + (2 ^ (a 2).toNat - ((ppr a p).toNat + 1)) := by omega
  rw [e2, frs_add]
  refine frs_none _ _ _ (fun i b1 b2 b3 => ?_)
  have hd := sub_dec ⟨i.toNat, by omega⟩ ⟨t, ht64⟩
  simp only [ht] at hd
  rw [show ((i.toNat : Nat) : Int) = i by omega] at hd
  rcases hd with hd | hd
  · have := hd.2.1
    omega
  · exact hd.1 b3.1
