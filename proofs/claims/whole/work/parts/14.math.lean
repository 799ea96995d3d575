/-! 14: sums, views, laws: the bridge as mathematics -/
theorem Ki {K : Option AV → Mem → Prop} {σ : Mem} {a b : Int} (h : K (some (.inl a)) σ) (e : a = b) : K (some (.inl b)) σ := e ▸ h
theorem Kp {K : Option AV → Mem → Prop} {σ : Mem} {c : Prop} [Decidable c] {x y : Int} (h : K (some (.inl (if c then x else y))) σ) (hc : c) : K (some (.inl x)) σ := by rw [if_pos hc] at h; exact h
theorem Kn {K : Option AV → Mem → Prop} {σ : Mem} {c : Prop} [Decidable c] {x y : Int} (h : K (some (.inl (if c then x else y))) σ) (hc : ¬ c) : K (some (.inl y)) σ := by rw [if_neg hc] at h; exact h
def sumZ (g : Int → Int) : Nat → Int
  | 0 => 0
  | n + 1 => sumZ g n + g n
theorem sumZ_s {g : Int → Int} {z : Int} (h : 0 ≤ z) : sumZ g (z + 1).toNat = sumZ g z.toNat + g z := by
  rw [show (z + 1).toNat = z.toNat + 1 by omega]
  show sumZ g z.toNat + g (z.toNat : Int) = _
  rw [Int.toNat_of_nonneg h]
theorem sumZ_le {g : Int → Int} {b : Int} : ∀ n : Nat, (∀ i : Int, 0 ≤ i → i < n → 0 ≤ g i ∧ g i ≤ b) → 0 ≤ sumZ g n ∧ sumZ g n ≤ b * n := by
  intro n
  induction n with
  | zero => intro _; exact ⟨Int.le_refl _, by simp [sumZ]⟩
  | succ n ih =>
    intro h
    have h1 := ih (fun i a1 a2 => h i a1 (by omega))
    have h2 := h n (by omega) (by omega)
    refine ⟨by show 0 ≤ sumZ g n + g n; omega, ?_⟩
    show sumZ g n + g n ≤ b * ((n + 1 : Nat) : Int)
    have : b * ((n + 1 : Nat) : Int) = b * n + b := by rw [show ((n + 1 : Nat) : Int) = (n : Int) + 1 by omega, Int.mul_add]; omega
    omega
theorem sumZ_congr {g h : Int → Int} : ∀ n : Nat, (∀ i : Int, 0 ≤ i → i < n → g i = h i) → sumZ g n = sumZ h n := by
  intro n
  induction n with
  | zero => intro _; rfl
  | succ n ih =>
    intro e
    show sumZ g n + g n = sumZ h n + h n
    rw [ih (fun i a1 a2 => e i a1 (by omega)), e n (by omega) (by omega)]
/-- a loop that counts up to P, with a state s -/
theorem loop_up {S : Type} {I : Int → S → Prop} {G : Int → S → Prop} {P : Int} (hx : ∀ s, I P s → G P s) (hs : ∀ z s, z < P → I z s → (∀ s', I (z + 1) s' → G (z + 1) s') → G z s) : ∀ (z : Int) (s : S), z ≤ P → I z s → G z s := by
  have H : ∀ (n : Nat) (z : Int) (s : S), z + n = P → I z s → G z s := by
    intro n
    induction n with
    | zero =>
      intro z s h hi
      have : z = P := by omega
      subst this
      exact hx s hi
    | succ n ih =>
      intro z s h hi
      exact hs z s (by omega) hi (fun s' h' => ih (z + 1) s' (by omega) h')
  intro z s h hi
  exact H (P - z).toNat z s (by omega) hi
/-- kinds that stay as they are, but those of L -/
def eqx (L : List Nat) (σ σ' : Mem) : Prop := ∀ K, K ∉ L → σ' K = σ K
theorem eqx.rf {L : List Nat} {σ : Mem} : eqx L σ σ := fun _ _ => rfl
theorem eqx.tr {L : List Nat} {σ σ1 σ2 : Mem} (h1 : eqx L σ σ1) (h2 : eqx L σ1 σ2) : eqx L σ σ2 := fun K h => (h2 K h).trans (h1 K h)
theorem eqx.wd {L L2 : List Nat} {σ σ1 : Mem} (h1 : eqx L σ σ1) (h : ∀ K ∈ L, K ∈ L2) : eqx L2 σ σ1 := fun K hk => h1 K (fun x => hk (h K x))
theorem mu_k {σ : Mem} {K i j K' : Nat} {v : Int} (h : ¬ K' = K) : mu σ K i j v K' = σ K' := by
  funext b c
  exact mu_other h
theorem eqx_mu {L : List Nat} {σ σ1 : Mem} {K i j : Nat} {v : Int} (h : eqx L σ σ1) (hk : K ∈ L) : eqx L σ (mu σ1 K i j v) := fun K' h' => (mu_k (K' := K') (K := K) (fun e => h' (by rw [e]; exact hk))).trans (h K' h')
theorem mu_at {σ : Mem} {K i j k : Nat} {v : Int} : mu σ K i j v K i k = if k = j then v else σ K i k := by simp [mu]
abbrev BV : Type := Nat → Int
def dz (a : BV) (p q : Int) : Int := a (36 + 6 * p + q).toNat
def mDebtOf (a : BV) (p : Int) : Int := sumZ (fun q => dz a p q) (a 2).toNat
def mOwedTo (a : BV) (p : Int) : Int := sumZ (fun q => dz a q p) (a 2).toNat
def mPapersOf (a : BV) (p : Int) : Int := sumZ (fun q => if dz a p q > 0 then 1 else 0) (a 2).toNat
/-! laws: codes as the reference has them -/
def clG (v : Int) : Int := if v > 1000000 then 1000000 else if v < -1000000 then -1000000 else v
def btw (c a b : Int) : Int :=
  if c = 3003 then (if a = b then 1 else 0) else if c = 3004 then (if a < b then 1 else 0) else if c = 3005 then (if a > b then 1 else 0)
  else if c = 3007 then iand a b else if c = 3008 then ior a b else if c = 3000 then clG (a + b) else if c = 3001 then clG (a - b) else clG (a * b)
def lstep (ws : Nat → Int) (c : Int) (st : List Int) : List Int :=
  if c < 1000 then c :: st else if c < 3000 then ws (c - 1000).toNat :: st else if c = 3006 then (match st with | x :: r => (1 - x) :: r | [] => []) else (match st with | b :: a :: r => btw c a b :: r | r => r)
def lrun (ws : Nat → Int) : List Int → List Int → List Int
  | [], st => st
  | c :: cs, st => lrun ws cs (lstep ws c st)
def lval (ws : Nat → Int) (cs : List Int) : Int := (lrun ws cs []).headD 0
/-- types: true for truths -/
def tstep (c : Int) (st : List Bool) : Option (List Bool) :=
  if 0 ≤ c ∧ c < 1009 then (if st.length < 60 then some (false :: st) else none)
  else if c = 3006 then (match st with | true :: r => some (true :: r) | _ => none)
  else if c = 3007 ∨ c = 3008 then (match st with | true :: true :: r => some (true :: r) | _ => none)
  else if c = 3003 ∨ c = 3004 ∨ c = 3005 then (match st with | false :: false :: r => some (true :: r) | _ => none)
  else if c = 3000 ∨ c = 3001 ∨ c = 3002 then (match st with | false :: false :: r => some (false :: r) | _ => none)
  else none
def trun : List Int → List Bool → Option (List Bool)
  | [], st => some st
  | c :: cs, st => match tstep c st with
    | some st' => trun cs st'
    | none => none
def tyd : List Int → List Bool → Prop
  | [], [] => True
  | x :: r, b :: bs => (if b = true then x = 0 ∨ x = 1 else -1000000 ≤ x ∧ x ≤ 1000000) ∧ tyd r bs
  | _, _ => False
def wbd (ws : Nat → Int) (c : Int) : Prop := 1000 ≤ c → c < 3000 → -1000000 ≤ ws (c - 1000).toNat ∧ ws (c - 1000).toNat ≤ 1000000
theorem tyd_len : ∀ {st : List Int} {ts : List Bool}, tyd st ts → st.length = ts.length := by
  intro st
  induction st with
  | nil => intro ts h; cases ts with
    | nil => rfl
    | cons b bs => exact h.elim
  | cons x r ih => intro ts h; cases ts with
    | nil => exact h.elim
    | cons b bs => simp [ih h.2]
theorem clG_le (v : Int) : -1000000 ≤ clG v ∧ clG v ≤ 1000000 := by
  unfold clG
  split
  · omega
  · split <;> omega
/-- the five ways in which a step of a law goes -/
theorem tstep_cases {c : Int} {ts ts' : List Bool} (h : tstep c ts = some ts') :
    (0 ≤ c ∧ c < 1009 ∧ ts.length < 60 ∧ ts' = false :: ts) ∨ (c = 3006 ∧ ∃ r, ts = true :: r ∧ ts' = true :: r) ∨ ((c = 3007 ∨ c = 3008) ∧ ∃ r, ts = true :: true :: r ∧ ts' = true :: r) ∨
    ((c = 3003 ∨ c = 3004 ∨ c = 3005) ∧ ∃ r, ts = false :: false :: r ∧ ts' = true :: r) ∨ ((c = 3000 ∨ c = 3001 ∨ c = 3002) ∧ ∃ r, ts = false :: false :: r ∧ ts' = false :: r) := by
  unfold tstep at h
  split at h
  · rename_i h1
    split at h
    · rename_i h2
      exact Or.inl ⟨h1.1, h1.2, h2, (Option.some.inj h).symm⟩
    · cases h
  · split at h
    · rename_i h1
      split at h
      · exact Or.inr (Or.inl ⟨h1, _, rfl, (Option.some.inj h).symm⟩)
      · cases h
    · split at h
      · rename_i h1
        split at h
        · exact Or.inr (Or.inr (Or.inl ⟨h1, _, rfl, (Option.some.inj h).symm⟩))
        · cases h
      · split at h
        · rename_i h1
          split at h
          · exact Or.inr (Or.inr (Or.inr (Or.inl ⟨h1, _, rfl, (Option.some.inj h).symm⟩)))
          · cases h
        · split at h
          · rename_i h1
            split at h
            · exact Or.inr (Or.inr (Or.inr (Or.inr ⟨h1, _, rfl, (Option.some.inj h).symm⟩)))
            · cases h
          · cases h
theorem tyd_2 {st : List Int} {b1 b2 : Bool} {r : List Bool} (h : tyd st (b1 :: b2 :: r)) : ∃ x y s, st = x :: y :: s ∧ (if b1 = true then x = 0 ∨ x = 1 else -1000000 ≤ x ∧ x ≤ 1000000) ∧ (if b2 = true then y = 0 ∨ y = 1 else -1000000 ≤ y ∧ y ≤ 1000000) ∧ tyd s r := by
  cases st with
  | nil => exact h.elim
  | cons x st => cases st with
    | nil => exact h.2.elim
    | cons y s => exact ⟨x, y, s, rfl, h.1, h.2.1, h.2.2⟩
theorem tyd_1 {st : List Int} {b1 : Bool} {r : List Bool} (h : tyd st (b1 :: r)) : ∃ x s, st = x :: s ∧ (if b1 = true then x = 0 ∨ x = 1 else -1000000 ≤ x ∧ x ≤ 1000000) ∧ tyd s r := by
  cases st with
  | nil => exact h.elim
  | cons x s => exact ⟨x, s, rfl, h.1, h.2⟩
theorem andor01 : ∀ x y : Int, (x = 0 ∨ x = 1) → (y = 0 ∨ y = 1) → (iand x y = 0 ∨ iand x y = 1) ∧ (ior x y = 0 ∨ ior x y = 1) := by
  rintro x y (rfl | rfl) (rfl | rfl) <;> decide +kernel
theorem tyd_step {ws : Nat → Int} {c : Int} (hw : wbd ws c) {st : List Int} {ts ts' : List Bool} (h : tyd st ts) (ht : tstep c ts = some ts') : tyd (lstep ws c st) ts' := by
  rcases tstep_cases ht with ⟨h1, h2, h3, rfl⟩ | ⟨rfl, r, rfl, rfl⟩ | ⟨h1, r, rfl, rfl⟩ | ⟨h1, r, rfl, rfl⟩ | ⟨h1, r, rfl, rfl⟩
  · unfold lstep
    split
    · exact ⟨by simp; omega, h⟩
    · rw [if_pos (by omega)]
      exact ⟨by simp; exact hw (by omega) (by omega), h⟩
  · obtain ⟨x, s, rfl, hx, hr⟩ := tyd_1 h
    refine ⟨?_, hr⟩
    simp at hx ⊢
    omega
  · obtain ⟨x, y, s, rfl, hx, hy, hr⟩ := tyd_2 h
    simp at hx hy
    have h9 := andor01 y x hy hx
    have e : lstep ws c (x :: y :: s) = btw c y x :: s := by
      unfold lstep
      rw [if_neg (by omega), if_neg (by omega), if_neg (by omega)]
    rw [e]
    refine ⟨?_, hr⟩
    simp only [if_true]
    unfold btw
    rcases h1 with rfl | rfl
    · simp; exact h9.1
    · simp; exact h9.2
  · obtain ⟨x, y, s, rfl, hx, hy, hr⟩ := tyd_2 h
    have e : lstep ws c (x :: y :: s) = btw c y x :: s := by
      unfold lstep
      rw [if_neg (by omega), if_neg (by omega), if_neg (by omega)]
    rw [e]
    refine ⟨?_, hr⟩
    simp only [if_true]
    unfold btw
    rcases h1 with rfl | rfl | rfl
    · simp; omega
    · simp; omega
    · simp; omega
  · obtain ⟨x, y, s, rfl, hx, hy, hr⟩ := tyd_2 h
    have e : lstep ws c (x :: y :: s) = btw c y x :: s := by
      unfold lstep
      rw [if_neg (by omega), if_neg (by omega), if_neg (by omega)]
    rw [e]
    refine ⟨?_, hr⟩
    simp only [Bool.false_eq_true, if_false]
    unfold btw
    rcases h1 with rfl | rfl | rfl <;> simp <;> exact clG_le _
/-- a stack in an array, its bottom at 0 -/
def rpr (f : Nat → Int) : List Int → Prop
  | [] => True
  | x :: r => f r.length = x ∧ rpr f r
theorem rpr_ext {f g : Nat → Int} : ∀ {st : List Int}, rpr f st → (∀ i, i < st.length → g i = f i) → rpr g st := by
  intro st
  induction st with
  | nil => intro _ _; trivial
  | cons x r ih => intro h e; exact ⟨by rw [e _ (by simp)]; exact h.1, ih h.2 (fun i hi => e i (by simp; omega))⟩
theorem rpr_push {f : Nat → Int} {st : List Int} {x : Int} (h : rpr f st) : rpr (fun k => if k = st.length then x else f k) (x :: st) := ⟨by simp, rpr_ext h (fun i hi => by simp; omega)⟩

theorem div_b {s m : Int} (hm : 1 ≤ m) : (0 ≤ s → 0 ≤ s / m ∧ s / m ≤ s) ∧ (s < 0 → s ≤ s / m ∧ s / m < 0) := by
  constructor
  · intro h
    exact ⟨Int.ediv_nonneg h (by omega), Int.ediv_le_self m h⟩
  · intro h
    refine ⟨Int.le_ediv_of_mul_le (by omega) ?_, Int.ediv_neg_of_neg_of_pos h (by omega)⟩
    have := Int.mul_le_mul_of_nonneg_left hm (show 0 ≤ -s by omega)
    rw [Int.neg_mul, Int.neg_mul] at this
    omega
theorem pow_1 (k : Nat) : (1 : Int) ≤ 2 ^ k := by
  have := Nat.two_pow_pos k
  exact_mod_cast this
theorem pow_le {k n : Nat} (h : k ≤ n) : (2 : Int) ^ k ≤ 2 ^ n := by
  have := Nat.pow_le_pow_right (n := 2) (by decide) h
  exact_mod_cast this
/-- the numbers of a bridge that stands: N, P, snowy, what planks bear, day, snow, x, broken, mended, places, debts -/
def OkA (a : BV) : Prop :=
  (1 ≤ a 1 ∧ a 1 ≤ 8) ∧ (0 ≤ a 2 ∧ a 2 ≤ 6) ∧ (0 ≤ a 3 ∧ a 3 ≤ 10) ∧ (∀ k, k < 8 → 0 ≤ a (10 + k) ∧ a (10 + k) ≤ 999) ∧ (0 ≤ a 18 ∧ a 18 ≤ 1000000000) ∧ (a 19 = 0 ∨ a 19 = 1) ∧ True ∧ (0 ≤ a 21 ∧ a 21 < 256) ∧
  (∀ k, k < 8 → 0 ≤ a (22 + k) ∧ a (22 + k) ≤ 99) ∧ (∀ p, p < 6 → -1 ≤ a (30 + p) ∧ a (30 + p) ≤ a 1 + 1) ∧ (∀ k, k < 36 → 0 ≤ a (36 + k) ∧ a (36 + k) ≤ 99) ∧ (∀ p, p < 6 → a (36 + 7 * p) = 0) ∧
  (∀ p q : Nat, p < 6 → q < 6 → (a 2 ≤ (p : Int) ∨ a 2 ≤ (q : Int)) → a (36 + 6 * p + q) = 0) ∧ (∀ k : Nat, a 1 ≤ (k : Int) → a 21 / 2 ^ k % 2 = 0)
theorem OkA.N {a : BV} (h : OkA a) : 1 ≤ a 1 ∧ a 1 ≤ 8 := h.1
theorem OkA.P {a : BV} (h : OkA a) : 0 ≤ a 2 ∧ a 2 ≤ 6 := h.2.1
theorem OkA.snowy {a : BV} (h : OkA a) : 0 ≤ a 3 ∧ a 3 ≤ 10 := h.2.2.1
theorem OkA.day {a : BV} (h : OkA a) : 0 ≤ a 18 ∧ a 18 ≤ 1000000000 := h.2.2.2.2.1
theorem OkA.snow {a : BV} (h : OkA a) : a 19 = 0 ∨ a 19 = 1 := h.2.2.2.2.2.1
theorem OkA.broken {a : BV} (h : OkA a) : 0 ≤ a 21 ∧ a 21 < 256 := h.2.2.2.2.2.2.2.1
theorem OkA.bears {a : BV} (h : OkA a) {k : Int} (h1 : 0 ≤ k ∧ k < 8) : 0 ≤ a (10 + k).toNat ∧ a (10 + k).toNat ≤ 999 := by
  have := h.2.2.2.1 k.toNat (by omega)
  rw [show (10 + k).toNat = 10 + k.toNat by omega]
  exact this
theorem OkA.mended {a : BV} (h : OkA a) {k : Int} (h1 : 0 ≤ k ∧ k < 8) : 0 ≤ a (22 + k).toNat ∧ a (22 + k).toNat ≤ 99 := by
  have := h.2.2.2.2.2.2.2.2.1 k.toNat (by omega)
  rw [show (22 + k).toNat = 22 + k.toNat by omega]
  exact this
theorem OkA.place {a : BV} (h : OkA a) {p : Int} (h1 : 0 ≤ p ∧ p < 6) : -1 ≤ a (30 + p).toNat ∧ a (30 + p).toNat ≤ a 1 + 1 := by
  have := h.2.2.2.2.2.2.2.2.2.1 p.toNat (by omega)
  rw [show (30 + p).toNat = 30 + p.toNat by omega]
  exact this
theorem OkA.debt {a : BV} (h : OkA a) {p q : Int} (h1 : 0 ≤ p ∧ p < 6) (h2 : 0 ≤ q ∧ q < 6) : 0 ≤ dz a p q ∧ dz a p q ≤ 99 := by
  have := h.2.2.2.2.2.2.2.2.2.2.1 (6 * p + q).toNat (by omega)
  unfold dz
  rw [show (36 + 6 * p + q).toNat = 36 + (6 * p + q).toNat by omega]
  exact this
theorem OkA.diag {a : BV} (h : OkA a) {p : Int} (h1 : 0 ≤ p ∧ p < 6) : dz a p p = 0 := by
  have := h.2.2.2.2.2.2.2.2.2.2.2.1 p.toNat (by omega)
  unfold dz
  rw [show (36 + 6 * p + p).toNat = 36 + 7 * p.toNat by omega]
  exact this
theorem OkA.none {a : BV} (h : OkA a) {p q : Int} (h1 : 0 ≤ p ∧ p < 6) (h2 : 0 ≤ q ∧ q < 6) (h3 : a 2 ≤ p ∨ a 2 ≤ q) : dz a p q = 0 := by
  have := h.2.2.2.2.2.2.2.2.2.2.2.2.1 p.toNat q.toNat (by omega) (by omega) (by omega)
  unfold dz
  rw [show (36 + 6 * p + q).toNat = 36 + 6 * p.toNat + q.toNat by omega]
  exact this
theorem OkA.noPlank {a : BV} (h : OkA a) {k : Nat} (h1 : a 1 ≤ (k : Int)) : a 21 / 2 ^ k % 2 = 0 := h.2.2.2.2.2.2.2.2.2.2.2.2.2 k h1
theorem OkA.debtOf {a : BV} (h : OkA a) {p : Int} (h1 : 0 ≤ p ∧ p < 6) : 0 ≤ mDebtOf a p ∧ mDebtOf a p ≤ 594 := by
  have hP := h.P
  have := sumZ_le (g := fun q => dz a p q) (b := 99) (a 2).toNat (fun i a1 a2 => h.debt h1 ⟨a1, by omega⟩)
  unfold mDebtOf
  omega
theorem OkA.owedTo {a : BV} (h : OkA a) {p : Int} (h1 : 0 ≤ p ∧ p < 6) : 0 ≤ mOwedTo a p ∧ mOwedTo a p ≤ 594 := by
  have hP := h.P
  have := sumZ_le (g := fun q => dz a q p) (b := 99) (a 2).toNat (fun i a1 a2 => h.debt ⟨a1, by omega⟩ h1)
  unfold mOwedTo
  omega
theorem OkA.papersOf {a : BV} (h : OkA a) {p : Int} : 0 ≤ mPapersOf a p ∧ mPapersOf a p ≤ 6 := by
  have hP := h.P
  have := sumZ_le (g := fun q => if dz a p q > 0 then 1 else 0) (b := 1) (a 2).toNat (fun i a1 a2 => by split <;> omega)
  unfold mPapersOf
  omega
