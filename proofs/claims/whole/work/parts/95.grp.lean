/-! 95: groups whose nets come to nothing: mathematics -/
def bz (s : Int) (i : Nat) : Bool := decide (s / 2 ^ i % 2 = 1)
def sm (n : Nat → Int) (S : Nat → Bool) : Nat → Int
  | 0 => 0
  | c + 1 => sm n S c + (if S c = true then n c else 0)
theorem sm_diff {n : Nat → Int} {S T U : Nat → Bool} : ∀ c : Nat, (∀ i, i < c → T i = true → S i = true) → (∀ i, i < c → U i = (S i && !(T i))) → sm n U c = sm n S c - sm n T c := by
  intro c
  induction c with
  | zero => intro _ _; rfl
  | succ c ih =>
    intro h1 h2
    have e := ih (fun i x => h1 i (by omega)) (fun i x => h2 i (by omega))
    have a1 := h1 c (by omega)
    have a2 := h2 c (by omega)
    show sm n U c + (if U c = true then n c else 0) = sm n S c + (if S c = true then n c else 0) - (sm n T c + (if T c = true then n c else 0))
    rw [e, a2]
    cases hS : S c <;> cases hT : T c
    · simp
    · rw [hS, hT] at a1; exact absurd (a1 rfl) (by decide)
    · simp; omega
    · simp; omega
theorem sm_congr {n : Nat → Int} {S T : Nat → Bool} : ∀ c : Nat, (∀ i, i < c → S i = T i) → sm n S c = sm n T c := by
  intro c
  induction c with
  | zero => intro _; rfl
  | succ c ih =>
    intro h
    show sm n S c + (if S c = true then n c else 0) = sm n T c + (if T c = true then n c else 0)
    rw [ih (fun i x => h i (by omega)), h c (by omega)]
theorem sm_ne {n : Nat → Int} {S : Nat → Bool} : ∀ c : Nat, ¬ sm n S c = 0 → ∃ i, i < c ∧ S i = true := by
  intro c
  induction c with
  | zero => intro h; exact absurd rfl h
  | succ c ih =>
    intro h
    by_cases e : S c = true
    · exact ⟨c, by omega, e⟩
    · have h : ¬ sm n S c + (if S c = true then n c else 0) = 0 := h
      rw [if_neg e, Int.add_zero] at h
      obtain ⟨i, h1, h2⟩ := ih h
      exact ⟨i, by omega, h2⟩
/-- k groups that come to nothing lie in S, one beside the other -/
def Gk (n : Nat → Int) (P : Nat) : (Nat → Bool) → Nat → Prop := fun S k => match k with
  | 0 => True
  | k + 1 => ∃ T : Nat → Bool, (∀ i, i < P → T i = true → S i = true) ∧ (∃ i, i < P ∧ T i = true) ∧ sm n T P = 0 ∧ Gk n P (fun i => S i && !(T i)) k
termination_by _ k => k
theorem Gk_z {n : Nat → Int} {P : Nat} {S : Nat → Bool} : Gk n P S 0 := by unfold Gk; trivial
theorem Gk_s {n : Nat → Int} {P : Nat} {S : Nat → Bool} {k : Nat} : Gk n P S (k + 1) ↔ ∃ T : Nat → Bool, (∀ i, i < P → T i = true → S i = true) ∧ (∃ i, i < P ∧ T i = true) ∧ sm n T P = 0 ∧ Gk n P (fun i => S i && !(T i)) k := by
  constructor
  · intro h; unfold Gk at h; exact h
  · intro h; unfold Gk; exact h
theorem Gk_mono {n : Nat → Int} {P : Nat} : ∀ (k : Nat) {T S : Nat → Bool}, Gk n P T k → (∀ i, i < P → T i = true → S i = true) → Gk n P S k := by
  intro k
  induction k with
  | zero => intro T S _ _; exact Gk_z
  | succ k ih =>
    intro S' S h hS
    obtain ⟨T', h1, h2, h3, h5⟩ := Gk_s.mp h
    refine Gk_s.mpr ⟨T', fun i x y => hS i x (h1 i x y), h2, h3, ih h5 (fun i x y => ?_)⟩
    have := hS i x
    have y : (S' i && !(T' i)) = true := y
    show (S i && !(T' i)) = true
    cases hb : S' i <;> cases ht : T' i <;> simp_all
/-- without one -/
def wo1 (S : Nat → Bool) (p : Nat) : Nat → Bool := fun i => S i && !(decide (i = p))
theorem Gk_less {n : Nat → Int} {P : Nat} {S : Nat → Bool} {k : Nat} (h : Gk n P S (k + 1)) : ∃ p, p < P ∧ S p = true ∧ Gk n P (wo1 S p) k := by
  obtain ⟨T, h1, h2, h3, h5⟩ := Gk_s.mp h
  obtain ⟨p, hp, ht⟩ := h2
  refine ⟨p, hp, h1 p hp ht, Gk_mono k h5 (fun i x y => ?_)⟩
  have y : (S i && !(T i)) = true := y
  unfold wo1
  by_cases e : i = p
  · rw [e, ht] at y
    simp at y
  · cases hb : S i <;> simp_all
theorem Gk_off {n : Nat → Int} {P : Nat} : ∀ (k : Nat) {S : Nat → Bool}, Gk n P S k → ¬ sm n S P = 0 → ∃ p, p < P ∧ S p = true ∧ Gk n P (wo1 S p) k := by
  intro k
  induction k with
  | zero =>
    intro S _ hs
    obtain ⟨p, h1, h2⟩ := sm_ne P hs
    exact ⟨p, h1, h2, Gk_z⟩
  | succ k ih =>
    intro S' h hs
    obtain ⟨T, h1, h2, h3, h5⟩ := Gk_s.mp h
    have e := sm_diff (n := n) (U := fun i => S' i && !(T i)) P h1 (fun _ _ => rfl)
    obtain ⟨p, q1, q2, q3⟩ := ih h5 (by omega)
    have q2 : (S' p && !(T p)) = true := q2
    have sp : S' p = true := by cases hb : S' p <;> simp_all
    have tp : T p = false := by cases hb : T p <;> simp_all
    refine ⟨p, q1, sp, Gk_s.mpr ⟨T, fun i x y => ?_, h2, h3, Gk_mono k q3 (fun i x y => ?_)⟩⟩
    · unfold wo1
      have := h1 i x y
      by_cases e : i = p
      · rw [e, tp] at y; exact absurd y (by decide)
      · simp [this, e]
    · have y : (S' i && !(T i) && !(decide (i = p))) = true := y
      show (S' i && !(decide (i = p)) && !(T i)) = true
      cases hb : S' i <;> cases ht : T i <;> simp_all
theorem Gk_more {n : Nat → Int} {P : Nat} : ∀ (k : Nat) {U S : Nat → Bool}, Gk n P U k → (∀ i, i < P → U i = true → S i = true) → (∃ x, x < P ∧ S x = true ∧ U x = false) → sm n S P = 0 → Gk n P S (k + 1) := by
  intro k
  induction k with
  | zero =>
    intro U S _ h1 h2 h3
    obtain ⟨x, x1, x2, _⟩ := h2
    exact Gk_s.mpr ⟨S, fun _ _ h => h, ⟨x, x1, x2⟩, h3, Gk_z⟩
  | succ k ih =>
    intro U' S g h1 h2 h3
    obtain ⟨T, g1, g2, g3, g5⟩ := Gk_s.mp g
    obtain ⟨x, x1, x2, x3⟩ := h2
    have tS : ∀ i, i < P → T i = true → S i = true := fun i a b => h1 i a (g1 i a b)
    have e := sm_diff (n := n) (S := S) (T := T) (U := fun i => S i && !(T i)) P tS (fun _ _ => rfl)
    have tx : T x = false := by
      cases ht : T x
      · rfl
      · have := g1 x x1 ht
        rw [x3] at this; exact absurd this (by decide)
    refine Gk_s.mpr ⟨T, tS, g2, g3, ih g5 (fun i a b => ?_) ⟨x, x1, ?_, ?_⟩ (by omega)⟩
    · have b : (U' i && !(T i)) = true := b
      have := h1 i a
      cases hb : U' i <;> cases ht : T i <;> simp_all
    · show (S x && !(T x)) = true
      rw [x2, tx]; rfl
    · show (U' x && !(T x)) = false
      rw [x3]; rfl
/-- the greatest number of groups -/
def mx (n : Nat → Int) (P : Nat) (S : Nat → Bool) (r : Int) : Prop := 0 ≤ r ∧ Gk n P S r.toNat ∧ ∀ k : Nat, Gk n P S k → (k : Int) ≤ r
theorem mx_one {n : Nat → Int} {P : Nat} {S : Nat → Bool} {r r' : Int} (h : mx n P S r) (h' : mx n P S r') : r = r' := by
  have a1 := h.2.2 _ h'.2.1
  have a2 := h'.2.2 _ h.2.1
  have b1 := h.1
  have b2 := h'.1
  omega
theorem mx_congr {n : Nat → Int} {P : Nat} {S S' : Nat → Bool} {r : Int} (e : ∀ i, i < P → S i = S' i) (h : mx n P S r) : mx n P S' r :=
  ⟨h.1, Gk_mono _ h.2.1 (fun i a b => by rw [← e i a]; exact b), fun k g => h.2.2 k (Gk_mono k g (fun i a b => by rw [e i a]; exact b))⟩
theorem mx_step {n : Nat → Int} {P : Nat} {S : Nat → Bool} {g : Nat → Int} {best : Int} (hg : ∀ p, p < P → S p = true → mx n P (wo1 S p) (g p)) (hb : ∀ p, p < P → S p = true → g p ≤ best) (he : ∃ p, p < P ∧ S p = true ∧ best = g p) : mx n P S (best + (if sm n S P = 0 then 1 else 0)) := by
  obtain ⟨p, h1, h2, h3⟩ := he
  have gp := hg p h1 h2
  have g0 := gp.1
  have wS : ∀ i, i < P → wo1 S p i = true → S i = true := fun i _ b => by
    unfold wo1 at b
    cases hs : S i <;> simp_all
  have wp : wo1 S p p = false := by unfold wo1; simp
  by_cases c : sm n S P = 0
  · rw [if_pos c]
    refine ⟨by omega, ?_, fun k gk => ?_⟩
    · have := Gk_more _ gp.2.1 wS ⟨p, h1, h2, wp⟩ c
      rw [show (best + 1).toNat = (g p).toNat + 1 by omega]
      exact this
    · cases k with
      | zero => omega
      | succ k =>
        obtain ⟨q, q1, q2, q3⟩ := Gk_less gk
        have := (hg q q1 q2).2.2 k q3
        have := hb q q1 q2
        omega
  · rw [if_neg c]
    refine ⟨by omega, ?_, fun k gk => ?_⟩
    · rw [show (best + 0).toNat = (g p).toNat by omega]
      exact Gk_mono _ gp.2.1 wS
    · obtain ⟨q, q1, q2, q3⟩ := Gk_off k gk c
      have := (hg q q1 q2).2.2 k q3
      have := hb q q1 q2
      omega
/-- those before that are not nothing -/
def cnZ (n : Nat → Int) : Nat → Nat
  | 0 => 0
  | c + 1 => cnZ n c + (if n c = 0 then 0 else 1)
theorem cnZ_s {n : Nat → Int} {c : Nat} : cnZ n (c + 1) = cnZ n c + (if n c = 0 then 0 else 1) := rfl
theorem cnZ_le {n : Nat → Int} : ∀ c : Nat, cnZ n c ≤ c := by
  intro c
  induction c with
  | zero => exact Nat.le_refl _
  | succ c ih => rw [cnZ_s]; split <;> omega
theorem cnZ_lt {n : Nat → Int} {p : Nat} (hp : ¬ n p = 0) : ∀ c : Nat, p < c → cnZ n p < cnZ n c := by
  intro c
  induction c with
  | zero => intro h; omega
  | succ c ih =>
    intro h
    rw [cnZ_s]
    by_cases e : p = c
    · rw [← e, if_neg hp]; omega
    · have := ih (by omega)
      split <;> omega
theorem cnZ_inj {n : Nat → Int} {p q : Nat} (hp : ¬ n p = 0) (hq : ¬ n q = 0) (h : cnZ n p = cnZ n q) : p = q := by
  rcases Nat.lt_trichotomy p q with c | c | c
  · have := cnZ_lt hp q c; omega
  · exact c
  · have := cnZ_lt hq p c; omega
theorem cnZ_ex {n : Nat → Int} : ∀ (P i : Nat), i < cnZ n P → ∃ p, p < P ∧ ¬ n p = 0 ∧ cnZ n p = i := by
  intro P
  induction P with
  | zero => intro i h; exact absurd h (Nat.not_lt_zero _)
  | succ P ih =>
    intro i h
    rw [cnZ_s] at h
    by_cases e : i < cnZ n P
    · obtain ⟨p, h1, h2, h3⟩ := ih i e
      exact ⟨p, by omega, h2, h3⟩
    · by_cases z : n P = 0
      · rw [if_pos z] at h; omega
      · rw [if_neg z] at h
        exact ⟨P, by omega, z, by omega⟩
def emb (n : Nat → Int) (mask : Int) : Nat → Bool := fun p => decide (¬ n p = 0) && bz mask (cnZ n p)
theorem sm_emb {n nets : Nat → Int} {mask : Int} : ∀ P : Nat, (∀ p, p < P → ¬ n p = 0 → nets (cnZ n p) = n p) → sm nets (bz mask) (cnZ n P) = sm n (emb n mask) P := by
  intro P
  induction P with
  | zero => intro _; rfl
  | succ P ih =>
    intro h
    have e := ih (fun p a b => h p (by omega) b)
    rw [cnZ_s]
    show _ = sm n (emb n mask) P + (if emb n mask P = true then n P else 0)
    unfold emb at e ⊢
    by_cases z : n P = 0
    · rw [if_pos z, Nat.add_zero, e]
      simp [z]
    · rw [if_neg z]
      show sm nets (bz mask) (cnZ n P) + (if bz mask (cnZ n P) = true then nets (cnZ n P) else 0) = _
      rw [e, h P (by omega) z]
      simp [z]
theorem bz_pop_d : ∀ s : Fin 64, ∀ i : Fin 6, bz s.val i.val = true → 2 ^ i.val ≤ (s.val : Int) ∧ ∀ j : Fin 6, bz ((s.val : Int) - 2 ^ i.val) j.val = (bz s.val j.val && !(decide (j.val = i.val))) := by decide +kernel
theorem bz_full_d : ∀ c : Fin 7, ∀ i : Fin 6, bz (2 ^ c.val - 1) i.val = decide (i.val < c.val) := by decide +kernel
theorem bz_any_d : ∀ c : Fin 7, ∀ s : Fin 64, 0 < s.val → s.val < 2 ^ c.val → ∃ i : Fin 6, i.val < c.val ∧ bz s.val i.val = true := by decide +kernel
theorem bz_mk_d : ∀ b0 b1 b2 b3 b4 b5 : Fin 2, bz ((b0.val + 2 * b1.val + 4 * b2.val + 8 * b3.val + 16 * b4.val + 32 * b5.val : Nat) : Int) 0 = decide (b0.val = 1) ∧ bz ((b0.val + 2 * b1.val + 4 * b2.val + 8 * b3.val + 16 * b4.val + 32 * b5.val : Nat) : Int) 1 = decide (b1.val = 1) ∧ bz ((b0.val + 2 * b1.val + 4 * b2.val + 8 * b3.val + 16 * b4.val + 32 * b5.val : Nat) : Int) 2 = decide (b2.val = 1) ∧ bz ((b0.val + 2 * b1.val + 4 * b2.val + 8 * b3.val + 16 * b4.val + 32 * b5.val : Nat) : Int) 3 = decide (b3.val = 1) ∧ bz ((b0.val + 2 * b1.val + 4 * b2.val + 8 * b3.val + 16 * b4.val + 32 * b5.val : Nat) : Int) 4 = decide (b4.val = 1) ∧ bz ((b0.val + 2 * b1.val + 4 * b2.val + 8 * b3.val + 16 * b4.val + 32 * b5.val : Nat) : Int) 5 = decide (b5.val = 1) := by decide +kernel
theorem bz_sub_d : ∀ s t : Fin 64, (iand t.val (ixor s.val (-1)) = 0 → (∀ i : Fin 6, bz t.val i.val = true → bz s.val i.val = true) ∧ iand s.val (ixor t.val (-1)) = (s.val : Int) - t.val ∧ t.val ≤ s.val ∧ (∀ i : Fin 6, bz ((s.val : Int) - t.val) i.val = (bz s.val i.val && !(bz t.val i.val))) ∧ (0 < t.val → pcz ((s.val : Int) - t.val) < pcz s.val)) := by decide +kernel
theorem bz_sub2_d : ∀ s t : Fin 64, (∀ i : Fin 6, bz t.val i.val = true → bz s.val i.val = true) → iand t.val (ixor s.val (-1)) = 0 := by decide +kernel
def b2 (b : Bool) : Fin 2 := if b = true then 1 else 0
theorem b2_v (b : Bool) : decide ((b2 b).val = 1) = b := by cases b <;> rfl
theorem bz_mk (T : Nat → Bool) : ∃ t : Int, (0 ≤ t ∧ t < 64) ∧ ∀ i, i < 6 → bz t i = T i := by
  obtain ⟨h0, h1, h2, h3, h4, h5⟩ := bz_mk_d (b2 (T 0)) (b2 (T 1)) (b2 (T 2)) (b2 (T 3)) (b2 (T 4)) (b2 (T 5))
  rw [b2_v] at h0 h1 h2 h3 h4 h5
  refine ⟨(((b2 (T 0)).val + 2 * (b2 (T 1)).val + 4 * (b2 (T 2)).val + 8 * (b2 (T 3)).val + 16 * (b2 (T 4)).val + 32 * (b2 (T 5)).val : Nat) : Int), ⟨?_, ?_⟩, fun i hi => ?_⟩
  rotate_left 2
  · have : i = 0 ∨ i = 1 ∨ i = 2 ∨ i = 3 ∨ i = 4 ∨ i = 5 := by omega
    rcases this with rfl | rfl | rfl | rfl | rfl | rfl
    · exact h0
    · exact h1
    · exact h2
    · exact h3
    · exact h4
    · exact h5
  · omega
  · have := (b2 (T 0)).isLt
    have := (b2 (T 1)).isLt
    have := (b2 (T 2)).isLt
    have := (b2 (T 3)).isLt
    have := (b2 (T 4)).isLt
    have := (b2 (T 5)).isLt
    omega
theorem bz_sub {s t : Int} (hs : 0 ≤ s ∧ s < 64) (ht : 0 ≤ t ∧ t < 64) : (iand t (ixor s (-1)) = 0 → (∀ i : Nat, i < 6 → bz t i = true → bz s i = true) ∧ iand s (ixor t (-1)) = s - t ∧ t ≤ s ∧ (∀ i : Nat, i < 6 → bz (s - t) i = (bz s i && !(bz t i))) ∧ (0 < t → pcz (s - t) < pcz s)) ∧ ((∀ i : Nat, i < 6 → bz t i = true → bz s i = true) → iand t (ixor s (-1)) = 0) := by
  have h := bz_sub_d ⟨s.toNat, by omega⟩ ⟨t.toNat, by omega⟩
  have h' := bz_sub2_d ⟨s.toNat, by omega⟩ ⟨t.toNat, by omega⟩
  have e1 : ((s.toNat : Nat) : Int) = s := by omega
  have e2 : ((t.toNat : Nat) : Int) = t := by omega
  simp only [e1, e2] at h h'
  refine ⟨fun g => ?_, fun g => h' (fun i => g i.val i.isLt)⟩
  obtain ⟨a1, a2, a3, a4, a5⟩ := h g
  exact ⟨fun i hi => a1 ⟨i, hi⟩, a2, by omega, fun i hi => a4 ⟨i, hi⟩, fun x => a5 (by omega)⟩
theorem bz_pop {s : Int} {i : Nat} (hs : 0 ≤ s ∧ s < 64) (hi : i < 6) (hb : bz s i = true) : 2 ^ i ≤ s ∧ ∀ j : Nat, j < 6 → bz (s - 2 ^ i) j = (bz s j && !(decide (j = i))) := by
  have h := bz_pop_d ⟨s.toNat, by omega⟩ ⟨i, hi⟩
  have e1 : ((s.toNat : Nat) : Int) = s := by omega
  simp only [e1] at h
  obtain ⟨a1, a2⟩ := h hb
  exact ⟨a1, fun j hj => a2 ⟨j, hj⟩⟩
theorem bz_any {c : Nat} {s : Int} (hc : c ≤ 6) (h0 : 0 < s) (h1 : s < 2 ^ c) : ∃ i : Nat, i < c ∧ bz s i = true := by
  have p2 := p2_64 ⟨c, by omega⟩
  have p2 : (1 : Int) ≤ 2 ^ c ∧ (2 : Int) ^ c ≤ 64 := p2
  have h := bz_any_d ⟨c, by omega⟩ ⟨s.toNat, by omega⟩
  have e1 : ((s.toNat : Nat) : Int) = s := by omega
  simp only [e1] at h
  have h2 : s.toNat < 2 ^ c := by
    have : ((s.toNat : Nat) : Int) < ((2 ^ c : Nat) : Int) := by rw [e1]; exact_mod_cast h1
    exact_mod_cast this
  obtain ⟨i, a1, a2⟩ := h (by omega) h2
  exact ⟨i.val, a1, a2⟩
/-- the class's table tells the greatest number -/
theorem mx_tab {n : Nat → Int} {P : Nat} {mask best : Int} {G : Int → Int} (hP : P ≤ 6) (hm : 0 < mask ∧ mask < 2 ^ (cnZ n P)) (hG : ∀ m' : Int, 0 ≤ m' → m' < mask → mx n P (emb n m') (G m')) (hb : ∀ i : Nat, i < cnZ n P → bz mask i = true → G (mask - 2 ^ i) ≤ best) (he : ∃ i : Nat, i < cnZ n P ∧ bz mask i = true ∧ best = G (mask - 2 ^ i)) : mx n P (emb n mask) (best + (if sm n (emb n mask) P = 0 then 1 else 0)) := by
  have cl := cnZ_le (n := n) P
  have p2 := p2_64 ⟨cnZ n P, by omega⟩
  have p2 : (1 : Int) ≤ 2 ^ (cnZ n P) ∧ (2 : Int) ^ (cnZ n P) ≤ 64 := p2
  have key : ∀ p, p < P → emb n mask p = true → (¬ n p = 0 ∧ bz mask (cnZ n p) = true ∧ cnZ n p < cnZ n P) := fun p hp he => by
    unfold emb at he
    have hn : ¬ n p = 0 := fun z => by simp [z] at he
    have hbt : bz mask (cnZ n p) = true := by
      cases hb : bz mask (cnZ n p)
      · rw [hb] at he; simp at he
      · rfl
    exact ⟨hn, hbt, cnZ_lt hn P hp⟩
  refine mx_step (g := fun p => G (mask - 2 ^ (cnZ n p))) (fun p hp hS => ?_) (fun p hp hS => ?_) ?_
  · obtain ⟨k1, k2, k3⟩ := key p hp hS
    obtain ⟨q1, q2⟩ := bz_pop (s := mask) ⟨by omega, by omega⟩ (by omega) k2
    have pos : (1 : Int) ≤ 2 ^ (cnZ n p) := pow_1 _
    refine mx_congr (fun i hi => ?_) (hG (mask - 2 ^ (cnZ n p)) (by omega) (by omega))
    have ci := cnZ_le (n := n) i
    show (decide (¬ n i = 0) && bz (mask - 2 ^ (cnZ n p)) (cnZ n i)) = (decide (¬ n i = 0) && bz mask (cnZ n i) && !(decide (i = p)))
    rw [q2 (cnZ n i) (by omega)]
    by_cases z : n i = 0
    · simp [z]
    · have : decide (cnZ n i = cnZ n p) = decide (i = p) := by
        by_cases e : i = p
        · simp [e]
        · rw [decide_eq_false e, decide_eq_false (fun x => e (cnZ_inj z k1 x))]
      rw [this]
      simp [z]
  · obtain ⟨k1, k2, k3⟩ := key p hp hS
    exact hb (cnZ n p) k3 k2
  · obtain ⟨i, i1, i2, i3⟩ := he
    obtain ⟨p, p1, p2, p3⟩ := cnZ_ex P i i1
    refine ⟨p, p1, ?_, ?_⟩
    · unfold emb
      rw [p3, i2]
      simp [p2]
    · show best = G (mask - 2 ^ (cnZ n p))
      rw [p3, i3]
theorem mx_nil {n : Nat → Int} {P : Nat} {S : Nat → Bool} (h : ∀ i, i < P → S i = false) : mx n P S 0 := ⟨Int.le_refl _, Gk_z, fun k g => by
  cases k with
  | zero => exact Int.le_refl _
  | succ k =>
    obtain ⟨T, h1, h2, h3, h5⟩ := Gk_s.mp g
    obtain ⟨i, a, b⟩ := h2
    have := h1 i a b
    rw [h i a] at this
    exact absurd this (by decide)⟩
theorem emb_full {n : Nat → Int} {P : Nat} (hP : P ≤ 6) : ∀ i, i < P → emb n (2 ^ (cnZ n P) - 1) i = decide (¬ n i = 0) := by
  intro i hi
  have cl := cnZ_le (n := n) P
  have ci := cnZ_le (n := n) i
  unfold emb
  have h := bz_full_d ⟨cnZ n P, by omega⟩ ⟨cnZ n i, by omega⟩
  have h : bz (2 ^ (cnZ n P) - 1) (cnZ n i) = decide (cnZ n i < cnZ n P) := h
  rw [h]
  by_cases z : n i = 0
  · simp [z]
  · simp [z, cnZ_lt z P hi]
