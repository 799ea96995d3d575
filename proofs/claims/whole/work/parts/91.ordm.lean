/-! 91: in which order people get over: mathematics -/
theorem rwF_none {g : Int → Int} : ∀ (n : Nat) (s : Int), rwF g n s = -1 ↔ ∀ i : Int, s ≤ i → i < s + n → g i = -1 := by
  intro n
  induction n with
  | zero => intro s; exact ⟨fun _ i a b => by omega, fun _ => rfl⟩
  | succ n ih =>
    intro s
    unfold rwF
    constructor
    · intro h i a1 a2
      split at h
      · rename_i c
        by_cases e : i = s
        · rw [e]; exact c
        · exact (ih (s + 1)).mp h i (by omega) (by omega)
      · rename_i c
        exact absurd h c
    · intro h
      rw [if_pos (h s (by omega) (by omega))]
      exact (ih (s + 1)).mpr (fun i a1 a2 => h i (by omega) (by omega))
theorem stpF_none {c : Int → Prop} : ∀ (n : Nat) (k : Int), 0 ≤ k → (stpF c n k = -1 ↔ ∀ i : Int, k ≤ i → i < k + n → ¬ c i) := by
  intro n
  induction n with
  | zero => intro k _; exact ⟨fun _ i a b => by omega, fun _ => rfl⟩
  | succ n ih =>
    intro k hk
    constructor
    · intro h i a1 a2 hc
      rcases Classical.em (c k) with g | g
      · rw [stpF_t g] at h
        omega
      · rw [stpF_f g] at h
        by_cases e : i = k
        · rw [e] at hc; exact g hc
        · exact (ih (k + 1) (by omega)).mp h i (by omega) (by omega) hc
    · intro h
      rw [stpF_f (h k (by omega) (by omega))]
      exact (ih (k + 1) (by omega)).mpr (fun i a1 a2 => h i (by omega) (by omega))
/-- what the i-th of a row weighs; nobody: 0 -/
def wA (a : BV) (lw : List Int) (m : Int) (f : Int → Int) (i : Int) : Int := if 0 ≤ i ∧ i < m then wgt a lw (f i) else 0
theorem rlie_I {a : BV} {lw : List Int} {f : Int → Int} {s k : Int} : ∀ m : Nat, rlie a lw f lagI s m k = wA a lw m f (s - k) := by
  intro m
  induction m with
  | zero =>
    unfold wA
    rw [if_neg (by omega)]
    rfl
  | succ m ih =>
    show rlie a lw f lagI s m k + (if s - lagI (m : Int) = k then wgt a lw (f (m : Int)) else 0) = _
    rw [ih]
    unfold wA lagI
    by_cases c : s - (m : Int) = k
    · rw [if_pos c, if_neg (by omega), if_pos (by omega), show s - k = (m : Int) by omega]
      omega
    · rw [if_neg c]
      by_cases c2 : 0 ≤ s - k ∧ s - k < (m : Int)
      · rw [if_pos c2, if_pos (by omega)]
        omega
      · rw [if_neg c2, if_neg (by omega)]
        rfl
/-- every plank bears the i-th of m with those beside it -/
def brn (a : BV) (lw : List Int) (m : Int) (f : Int → Int) (i : Int) : Prop := ∀ k : Int, 0 ≤ k → k < a 1 → wgt a lw (f i) + ((if k + 1 < a 1 then (if 0 < i then wgt a lw (f (i - 1)) else 0) else 0) + (if 0 < k then (if i + 1 < m then wgt a lw (f (i + 1)) else 0) else 0)) / 2 ≤ bears a k
theorem bits0 : ∀ n : Fin 256, (∀ k : Fin 8, (n.val : Int) / 2 ^ k.val % 2 = 0) → n.val = 0 := by decide +kernel
theorem rowok {a : BV} {lw : List Int} {m : Int} {f : Int → Int} (ho : OkA a) (hm : 1 ≤ m ∧ m ≤ 6) (hp : ∀ i : Int, 0 ≤ i → i < m → 0 ≤ f i ∧ f i < 6) : rowR a lw m f lagI = -1 ↔ (a 21 = 0 ∧ ∀ i : Int, 0 ≤ i → i < m → brn a lw m f i) := by
  have hN := ho.N
  have hbr := ho.broken
  have wl : ∀ i : Int, 0 ≤ i → i < m → 0 ≤ wgt a lw (f i) ∧ wgt a lw (f i) ≤ 9999 := fun i a1 a2 => wgt_le ho (hp i a1 a2)
  have ld : ∀ s k : Int, load a (rlie a lw f lagI s m.toNat) k = wA a lw m f (s - k) + ((if 0 < k then wA a lw m f (s - k + 1) else 0) + (if k < a 1 - 1 then wA a lw m f (s - k - 1) else 0)).tdiv 2 := fun s k => by
    unfold load
    have em : ((m.toNat : Nat) : Int) = m := by omega
    rw [rlie_I, rlie_I, rlie_I, em, show s - (k - 1) = s - k + 1 by omega, show s - (k + 1) = s - k - 1 by omega]
  have wnn : ∀ i : Int, 0 ≤ wA a lw m f i := fun i => by
    unfold wA
    split
    · rename_i c
      exact (wl i c.1 c.2).1
    · omega
  have e1 : rowR a lw m f lagI = -1 ↔ ∀ s k : Int, 0 ≤ s → s < a 1 + (m - 1) → 0 ≤ k → k < a 1 → ¬ rBad a lw m f lagI s k := by
    unfold rowR
    rw [rwF_none]
    constructor
    · intro h s k a1 a2 a3 a4
      have := h s a1 (by unfold lagI; omega)
      exact (stpF_none _ 0 (by decide)).mp this k a3 (by omega)
    · intro h s a1 a2
      exact (stpF_none _ 0 (by decide)).mpr (fun k a3 a4 => h s k a1 (by unfold lagI at a2; omega) a3 (by omega))
  rw [e1]
  have ron : ∀ s k : Int, rOn lagI m s k ↔ (0 ≤ s - k ∧ s - k < m) := fun s k => by
    unfold rOn lagI
    constructor
    · rintro ⟨i, h1, h2, h3⟩
      omega
    · intro h
      exact ⟨s - k, h.1, h.2, by omega⟩
  constructor
  · intro h
    have h21 : a 21 = 0 := by
      have hb := bits0 ⟨(a 21).toNat, by omega⟩ (fun k => by
        have e : (((a 21).toNat : Nat) : Int) = a 21 := by omega
        show (((a 21).toNat : Nat) : Int) / 2 ^ k.val % 2 = 0
        rw [e]
        by_cases ck : a 1 ≤ (k.val : Int)
        · exact ho.noPlank ck
        · rcases bit01 (a 21) k.val with c | c
          · exact c
          · exfalso
            refine h (k.val : Int) (k.val : Int) (by omega) (by omega) (by omega) (by omega) (Or.inl ⟨?_, (ron _ _).mpr ⟨by omega, by omega⟩⟩)
            rw [Int.toNat_natCast]
            exact c)
      have hb : (a 21).toNat = 0 := hb
      omega
    refine ⟨h21, fun i a1 a2 k a3 a4 => ?_⟩
    have nb := h (i + k) k (by omega) (by omega) a3 a4
    have hld : ¬ bears a k < load a (rlie a lw f lagI (i + k) m.toNat) k := fun x => nb (Or.inr ⟨by rw [h21, Int.zero_ediv]; rfl, x⟩)
    rw [ld, show i + k - k = i by omega] at hld
    have t0 : 0 ≤ (if 0 < k then wA a lw m f (i + 1) else 0) + (if k < a 1 - 1 then wA a lw m f (i - 1) else 0) := by
      have u1 := wnn (i + 1)
      have u2 := wnn (i - 1)
      (repeat' split) <;> omega
    rw [td t0] at hld
    have w0 : wA a lw m f i = wgt a lw (f i) := if_pos ⟨a1, a2⟩
    have w1 : wA a lw m f (i + 1) = if i + 1 < m then wgt a lw (f (i + 1)) else 0 := by
      unfold wA
      by_cases c : i + 1 < m
      · rw [if_pos ⟨by omega, c⟩, if_pos c]
      · rw [if_neg (by omega), if_neg c]
    have w2 : wA a lw m f (i - 1) = if 0 < i then wgt a lw (f (i - 1)) else 0 := by
      unfold wA
      by_cases c : 0 < i
      · rw [if_pos ⟨by omega, by omega⟩, if_pos c]
      · rw [if_neg (by omega), if_neg c]
    rw [w0, w1, w2] at hld
    have ek : (if k < a 1 - 1 then (if 0 < i then wgt a lw (f (i - 1)) else 0) else 0) = (if k + 1 < a 1 then (if 0 < i then wgt a lw (f (i - 1)) else 0) else 0) := by
      by_cases c : k + 1 < a 1
      · rw [if_pos c, if_pos (by omega)]
      · rw [if_neg c, if_neg (by omega)]
    rw [ek, Int.add_comm (if 0 < k then (if i + 1 < m then wgt a lw (f (i + 1)) else 0) else 0)] at hld
    omega
  · rintro ⟨h21, hb⟩ s k a1 a2 a3 a4 bad
    have bb := bears_b ho (k := k) ⟨a3, by omega⟩
    rcases bad with ⟨c, _⟩ | ⟨_, c⟩
    · rw [h21, Int.zero_ediv] at c
      omega
    · rw [ld] at c
      have u0 := wnn (s - k)
      have u1 := wnn (s - k + 1)
      have u2 := wnn (s - k - 1)
      have t0 : 0 ≤ (if 0 < k then wA a lw m f (s - k + 1) else 0) + (if k < a 1 - 1 then wA a lw m f (s - k - 1) else 0) := by (repeat' split) <;> omega
      rw [td t0] at c
      by_cases ci : 0 ≤ s - k ∧ s - k < m
      · have g := hb (s - k) ci.1 ci.2 k a3 a4
        have w0 : wA a lw m f (s - k) = wgt a lw (f (s - k)) := if_pos ci
        have w1 : wA a lw m f (s - k + 1) = if s - k + 1 < m then wgt a lw (f (s - k + 1)) else 0 := by
          unfold wA
          by_cases c : s - k + 1 < m
          · rw [if_pos ⟨by omega, c⟩, if_pos c]
          · rw [if_neg (by omega), if_neg c]
        have w2 : wA a lw m f (s - k - 1) = if 0 < s - k then wgt a lw (f (s - k - 1)) else 0 := by
          unfold wA
          by_cases c : 0 < s - k
          · rw [if_pos ⟨by omega, by omega⟩, if_pos c]
          · rw [if_neg (by omega), if_neg c]
        rw [w0, w1, w2] at c
        have ek : (if k < a 1 - 1 then (if 0 < s - k then wgt a lw (f (s - k - 1)) else 0) else 0) = (if k + 1 < a 1 then (if 0 < s - k then wgt a lw (f (s - k - 1)) else 0) else 0) := by
          by_cases c : k + 1 < a 1
          · rw [if_pos c, if_pos (by omega)]
          · rw [if_neg c, if_neg (by omega)]
        rw [ek, Int.add_comm (if 0 < k then (if s - k + 1 < m then wgt a lw (f (s - k + 1)) else 0) else 0)] at c
        omega
      · have w0 : wA a lw m f (s - k) = 0 := if_neg ci
        rw [w0] at c
        have nn : ∀ i : Int, 0 ≤ i → i < m → wgt a lw (f i) ≤ bears a k := fun i b1 b2 => by
          have g := hb i b1 b2 k a3 a4
          have t1 : 0 ≤ (if k + 1 < a 1 then (if 0 < i then wgt a lw (f (i - 1)) else 0) else 0) + (if 0 < k then (if i + 1 < m then wgt a lw (f (i + 1)) else 0) else 0) := by
            have v1 : 0 ≤ (if 0 < i then wgt a lw (f (i - 1)) else 0) := by
              split
              · exact (wl (i - 1) (by omega) (by omega)).1
              · omega
            have v2 : 0 ≤ (if i + 1 < m then wgt a lw (f (i + 1)) else 0) := by
              split
              · exact (wl (i + 1) (by omega) (by omega)).1
              · omega
            (repeat' split) <;> omega
          omega
        have half : ∀ j : Int, wA a lw m f j ≤ bears a k := fun j => by
          unfold wA
          split
          · rename_i cj
            exact nn j cj.1 cj.2
          · omega
        -- at most one of those beside is there
        by_cases cj : 0 ≤ s - k + 1 ∧ s - k + 1 < m
        · have z2 : wA a lw m f (s - k - 1) = 0 := if_neg (by omega)
          rw [z2] at c
          have := half (s - k + 1)
          by_cases c1 : 0 < k
          · rw [if_pos c1] at c
            have e0 : (if k < a 1 - 1 then (0 : Int) else 0) = 0 := by split <;> rfl
            rw [e0] at c
            omega
          · rw [if_neg c1] at c
            have e0 : (if k < a 1 - 1 then (0 : Int) else 0) = 0 := by split <;> rfl
            rw [e0] at c
            omega
        · have z1 : wA a lw m f (s - k + 1) = 0 := if_neg cj
          rw [z1] at c
          have := half (s - k - 1)
          have e0 : (if 0 < k then (0 : Int) else 0) = 0 := by split <;> rfl
          rw [e0] at c
          by_cases c1 : k < a 1 - 1
          · rw [if_pos c1] at c
            omega
          · rw [if_neg c1] at c
            omega
/-- the row with one more -/
def fu (f : Int → Int) (m p : Int) : Int → Int := fun i => if i = m then p else f i
abbrev RS : Type := Int × (Int → Int)
/-- a row is found -/
def vis (f : Int → Int) (s : RS) : RS := (s.1 + 1, if s.1 = 0 then f else s.2)
/-- those of a set, one after the other -/
def gF (rec : Int → RS → RS) (left : Int) : Nat → Int → RS → RS
  | 0, _, s => s
  | c + 1, p, s => gF rec left c (p + 1) (if left / 2 ^ p.toNat % 2 = 1 then rec p s else s)
noncomputable def gR (a : BV) (lw : List Int) : Nat → Int → (Int → Int) → Int → RS → RS
  | 0, _, _, _, s => s
  | n + 1, m, f, left, s => if left = 0 then cifS (rowR a lw m f lagI = -1) (vis f s) s else gF (fun p s => gR a lw n (m + 1) (fu f m p) (left - 2 ^ p.toNat) s) left (a 2).toNat 0 s
noncomputable def gC (a : BV) (lw : List Int) : Nat → Int → (Int → Int) → Int → RS → RS
  | 0, _, _, _, s => s
  | n + 1, m, f, left, s => if left = 0 then cifS (0 < m ∧ brn a lw m f (m - 1)) (vis f s) s else gF (fun p s => cifS (m = 0 ∨ brn a lw (m + 1) (fu f m p) (m - 1)) (gC a lw n (m + 1) (fu f m p) (left - 2 ^ p.toNat) s) s) left (a 2).toNat 0 s
theorem gF_congr {r1 r2 : Int → RS → RS} {left : Int} : ∀ (c : Nat) (p : Int) (s : RS), (∀ i : Int, p ≤ i → i < p + c → left / 2 ^ i.toNat % 2 = 1 → ∀ s, r1 i s = r2 i s) → gF r1 left c p s = gF r2 left c p s := by
  intro c
  induction c with
  | zero => intro p s _; rfl
  | succ c ih =>
    intro p s h
    show gF r1 left c (p + 1) (if left / 2 ^ p.toNat % 2 = 1 then r1 p s else s) = gF r2 left c (p + 1) (if left / 2 ^ p.toNat % 2 = 1 then r2 p s else s)
    have e : (if left / 2 ^ p.toNat % 2 = 1 then r1 p s else s) = (if left / 2 ^ p.toNat % 2 = 1 then r2 p s else s) := by
      by_cases g : left / 2 ^ p.toNat % 2 = 1
      · rw [if_pos g, if_pos g, h p (by omega) (by omega) g]
      · rw [if_neg g, if_neg g]
    rw [e]
    exact ih (p + 1) _ (fun i a1 a2 => h i (by omega) (by omega))
theorem gF_id {r : Int → RS → RS} {left : Int} (h : ∀ i s, left / 2 ^ i.toNat % 2 = 1 → 0 ≤ i → r i s = s) : ∀ (c : Nat) (p : Int) (s : RS), 0 ≤ p → gF r left c p s = s := by
  intro c
  induction c with
  | zero => intro p s _; rfl
  | succ c ih =>
    intro p s hp
    show gF r left c (p + 1) (if left / 2 ^ p.toNat % 2 = 1 then r p s else s) = s
    have e : (if left / 2 ^ p.toNat % 2 = 1 then r p s else s) = s := by
      split
      · rename_i g
        exact h p s g hp
      · rfl
    rw [e]
    exact ih (p + 1) s (by omega)
theorem brn_fu {a : BV} {lw : List Int} {m m' : Int} {f f' : Int → Int} {i : Int} (h1 : i + 1 < m) (h2 : i + 1 < m') (hf : ∀ j : Int, i - 1 ≤ j → j ≤ i + 1 → f j = f' j) : brn a lw m f i ↔ brn a lw m' f' i := by
  unfold brn
  rw [hf i (by omega) (by omega), hf (i - 1) (by omega) (by omega), hf (i + 1) (by omega) (by omega)]
  simp only [if_pos h1, if_pos h2]
theorem pop_dec : ∀ s : Fin 64, ∀ p : Fin 6, (s.val : Int) / 2 ^ p.val % 2 = 1 → (0 ≤ (s.val : Int) - 2 ^ p.val ∧ (s.val : Int) - 2 ^ p.val < 64 ∧ pcz ((s.val : Int) - 2 ^ p.val) = pcz (s.val : Int) - 1 ∧ iand (s.val : Int) (ixor (2 ^ p.val) (-1)) = (s.val : Int) - 2 ^ p.val) := by decide +kernel
theorem pop_z : ∀ s : Fin 64, pcz (s.val : Int) = 0 → s.val = 0 := by decide +kernel
theorem pop_s {s p : Int} (hs : 0 ≤ s ∧ s < 64) (hp : 0 ≤ p ∧ p < 6) (hb : s / 2 ^ p.toNat % 2 = 1) : (0 ≤ s - 2 ^ p.toNat ∧ s - 2 ^ p.toNat < 64) ∧ pcz (s - 2 ^ p.toNat) = pcz s - 1 ∧ iand s (ixor (2 ^ p.toNat) (-1)) = s - 2 ^ p.toNat := by
  have h := pop_dec ⟨s.toNat, by omega⟩ ⟨p.toNat, by omega⟩
  have e : ((s.toNat : Nat) : Int) = s := by omega
  simp only [e] at h
  obtain ⟨h1, h2, h3, h4⟩ := h hb
  exact ⟨⟨h1, h2⟩, h3, h4⟩
theorem pcz_pos {s : Int} (hs : 0 ≤ s ∧ s < 64) (h : ¬ s = 0) : 1 ≤ pcz s := by
  have := pop_z ⟨s.toNat, by omega⟩
  have e : ((s.toNat : Nat) : Int) = s := by omega
  simp only [e] at this
  have b := pcz_b s
  by_cases c : pcz s = 0
  · have := this c
    omega
  · omega
section ORD
variable {a : BV} {lw : List Int}
/-- those inside of a row are borne -/
def adm (a : BV) (lw : List Int) (m : Int) (f : Int → Int) : Prop := ∀ i : Int, 0 ≤ i → i + 1 < m → brn a lw m f i
theorem gR_none (ho : OkA a) : ∀ (n : Nat) (m : Int) (f : Int → Int) (left : Int) (s : RS), 0 ≤ m → (0 ≤ left ∧ left < 64) → m + pcz left ≤ 6 → (1 ≤ m ∨ ¬ left = 0) → (∀ i : Int, 0 ≤ i → i < m → 0 ≤ f i ∧ f i < 6) → (¬ a 21 = 0 ∨ ¬ adm a lw m f) → gR a lw n m f left s = s := by
  have hP := ho.P
  intro n
  induction n with
  | zero => intro m f left s _ _ _ _ _ _; rfl
  | succ n ih =>
    intro m f left s hm hl hs h1 hp hb
    unfold gR
    by_cases c : left = 0
    · rw [if_pos c]
      have pz := pcz_b left
      rw [cifS_f (fun x => ?_)]
      obtain ⟨g1, g2⟩ := (rowok ho ⟨by omega, by omega⟩ hp).mp x
      rcases hb with h | h
      · exact h g1
      · exact h (fun i b1 b2 => g2 i b1 (by omega))
    · rw [if_neg c]
      have key : ∀ i s, left / 2 ^ i.toNat % 2 = 1 → 0 ≤ i → i < a 2 → gR a lw n (m + 1) (fu f m i) (left - 2 ^ i.toNat) s = s := fun i s hbit hi hi2 => by
        obtain ⟨p1, p2, p3⟩ := pop_s hl ⟨hi, by omega⟩ hbit
        refine ih (m + 1) (fu f m i) (left - 2 ^ i.toNat) s (by omega) p1 (by omega) (Or.inl (by omega)) (fun j b1 b2 => ?_) ?_
        · unfold fu
          split
          · omega
          · exact hp j b1 (by omega)
        · rcases hb with h | h
          · exact Or.inl h
          · refine Or.inr (fun x => h (fun j b1 b2 => ?_))
            refine (brn_fu (m := m + 1) (f := fu f m i) (by omega) b2 (fun q c1 c2 => ?_)).mp (x j b1 (by omega))
            unfold fu
            rw [if_neg (by omega)]
      have e := gF_congr (r1 := fun p s => gR a lw n (m + 1) (fu f m p) (left - 2 ^ p.toNat) s) (r2 := fun _ s => s) (left := left) (a 2).toNat 0 s (fun i b1 b2 hbit s => key i s hbit b1 (by omega))
      rw [e]
      exact gF_id (fun i s _ _ => rfl) (a 2).toNat 0 s (by decide)
theorem gC_eq (ho : OkA a) (h21 : a 21 = 0) : ∀ (n : Nat) (m : Int) (f : Int → Int) (left : Int) (s : RS), 0 ≤ m → (0 ≤ left ∧ left < 64) → m + pcz left ≤ 6 → (1 ≤ m ∨ ¬ left = 0) → (∀ i : Int, 0 ≤ i → i < m → 0 ≤ f i ∧ f i < 6) → adm a lw m f → gC a lw n m f left s = gR a lw n m f left s := by
  have hP := ho.P
  intro n
  induction n with
  | zero => intro m f left s _ _ _ _ _ _; rfl
  | succ n ih =>
    intro m f left s hm hl hs h1 hp ha
    unfold gC gR
    by_cases c : left = 0
    · rw [if_pos c, if_pos c]
      have pz := pcz_b left
      have ok := rowok (lw := lw) ho (m := m) (f := f) ⟨by omega, by omega⟩ hp
      rcases Classical.em (brn a lw m f (m - 1)) with g | g
      · rw [cifS_t ⟨by omega, g⟩, cifS_t (ok.mpr ⟨h21, fun i b1 b2 => ?_⟩)]
        by_cases ci : i = m - 1
        · rw [ci]; exact g
        · exact ha i b1 (by omega)
      · rw [cifS_f (fun x => g x.2), cifS_f (fun x => g ((ok.mp x).2 (m - 1) (by omega) (by omega)))]
    · rw [if_neg c, if_neg c]
      refine gF_congr (a 2).toNat 0 s (fun i b1 b2 hbit s => ?_)
      obtain ⟨p1, p2, p3⟩ := pop_s hl ⟨b1, by omega⟩ hbit
      have hp' : ∀ j : Int, 0 ≤ j → j < m + 1 → 0 ≤ fu f m i j ∧ fu f m i j < 6 := fun j c1 c2 => by
        unfold fu
        split
        · omega
        · exact hp j c1 (by omega)
      have tr : ∀ j : Int, 0 ≤ j → j + 1 < m → (brn a lw (m + 1) (fu f m i) j ↔ brn a lw m f j) := fun j c1 c2 => brn_fu (by omega) c2 (fun q d1 d2 => by unfold fu; rw [if_neg (by omega)])
      rcases Classical.em (m = 0 ∨ brn a lw (m + 1) (fu f m i) (m - 1)) with g | g
      · rw [cifS_t g]
        refine ih (m + 1) (fu f m i) (left - 2 ^ i.toNat) s (by omega) p1 (by omega) (Or.inl (by omega)) hp' (fun j c1 c2 => ?_)
        by_cases cj : j = m - 1
        · rcases g with g | g
          · omega
          · rw [cj]; exact g
        · exact (tr j c1 (by omega)).mpr (ha j c1 (by omega))
      · rw [cifS_f g]
        refine (gR_none ho n (m + 1) (fu f m i) (left - 2 ^ i.toNat) s (by omega) p1 (by omega) (Or.inl (by omega)) hp' (Or.inr (fun x => g (Or.inr ?_)))).symm
        have hm0 : ¬ m = 0 := fun e => g (Or.inl e)
        exact x (m - 1) (by omega) (by omega)
end ORD
