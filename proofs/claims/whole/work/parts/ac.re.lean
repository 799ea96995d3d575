/-! ac: a plan pointer that nobody reads gets another number; readers of rows look at what is there alone -/
section RE
variable {d : Nat} {σ σ' : Mem} {K : Option AV → Mem → Prop} {a : BV} {lw ll : List Int}
def ren (ρ : Rho) (σ : Mem) (G : Nat) : Rho := fun K i => if K = 3 ∧ i = G then ρ 3 (σ 10 1 3).toNat else ρ K i
theorem ren_x {ρ : Rho} {G : Nat} : ext ρ (ren ρ σ G) := fun K i h => by
  unfold ren
  rw [if_neg (by omega)]
theorem cel_re {dA : Nat → ClassId} {ρ : Rho} {G : Nat} : cel dA (ren ρ σ G) (mu σ 10 1 3 (G : Int)) 10 1 = cel dA (ren ρ σ G) σ 10 1 := by
  have hc : ∀ τ : Mem, cel dA (ren ρ σ G) τ 10 1 = .inr (10, (fds 10).mapIdx (fun s fd => fvl (ren ρ σ G) τ 10 1 s fd)) := fun τ => rfl
  have h3 : ∀ fd, (fds 10)[3]? = some fd → fd = (4, 3, 0, 0) := fun fd h => (Option.some.inj h).symm
  have hl : (fds 10).mapIdx (fun s fd => fvl (ren ρ σ G) (mu σ 10 1 3 (G : Int)) 10 1 s fd) = (fds 10).mapIdx (fun s fd => fvl (ren ρ σ G) σ 10 1 s fd) := by
    generalize fds 10 = F at h3
    apply List.ext_getElem?
    intro n
    rw [List.getElem?_mapIdx, List.getElem?_mapIdx]
    cases hn : F[n]? with
    | none => rfl
    | some fd =>
      simp only [Option.map_some]
      by_cases e : n = 3
      · subst e
        rw [h3 fd hn]
        have e1 : fvl (ren ρ σ G) (mu σ 10 1 3 (G : Int)) 10 1 3 (4, 3, 0, 0) = Value.ref (ren ρ σ G 3 (mu σ 10 1 3 (G : Int) 10 1 3).toNat) := rfl
        have e2 : fvl (ren ρ σ G) σ 10 1 3 (4, 3, 0, 0) = Value.ref (ren ρ σ G 3 (σ 10 1 3).toNat) := rfl
        rw [e1, e2, mu_at, if_pos rfl, Int.toNat_natCast]
        have e3 : ren ρ σ G 3 G = ρ 3 (σ 10 1 3).toNat := by unfold ren; rw [if_pos ⟨rfl, rfl⟩]
        have e4 : ren ρ σ G 3 (σ 10 1 3).toNat = ρ 3 (σ 10 1 3).toNat := by
          unfold ren
          by_cases c : (3 : Nat) = 3 ∧ (σ 10 1 3).toNat = G
          · rw [if_pos c]
          · rw [if_neg c]
        rw [e3, e4]
      · have e2 : mu σ 10 1 3 (G : Int) 10 1 n = σ 10 1 n := by rw [mu_at, if_neg e]
        simp only [fvl, e2]
  rw [hc, hc, hl]
theorem wld_re {dA : Nat → ClassId} {ρ : Rho} {G : Nat} (hG : npl σ ≤ G) (h0 : ∀ w, w < 4 → ¬ w = 1 → (σ 10 w 3).toNat < npl σ) (h4 : (σ 4 0 9).toNat < npl σ) : wld dA (ren ρ σ G) (mu σ 10 1 3 (G : Int)) = wld dA ρ σ := by
  have rg : ∀ i : Nat, i < npl σ → ren ρ σ G 3 i = ρ 3 i := fun i hi => by
    unfold ren
    rw [if_neg (by omega)]
  have rw1 : ren ρ σ G 3 (σ 10 1 3).toNat = ρ 3 (σ 10 1 3).toNat := by
    unfold ren
    by_cases c : (3 : Nat) = 3 ∧ (σ 10 1 3).toNat = G
    · rw [if_pos c]
    · rw [if_neg c]
  have hpp : (∀ w, w < 4 → ren ρ σ G 3 (σ 10 w 3).toNat = ρ 3 (σ 10 w 3).toNat) ∧ ren ρ σ G 3 (σ 4 0 9).toNat = ρ 3 (σ 4 0 9).toNat := ⟨fun w hw => by
    by_cases c : w = 1
    · subst c; exact rw1
    · exact rg _ (h0 w hw c), rg _ h4⟩
  have r2 : ∀ K2 i : Nat, 21 ≤ K2 → K2 ≤ 25 → ren ρ σ G K2 i = ρ K2 i := fun K2 i h1 h2 => by
    unfold ren
    rw [if_neg (by omega)]
  unfold wld
  rw [dom_mu (by decide)]
  refine List.map_congr_left (fun q hq => ?_)
  have hlt : q.1 < 59 := dom_lt hq
  have e1 : ren ρ σ G q.1 q.2 = ρ q.1 q.2 := by
    by_cases c : q.1 = 3
    · have := (dom_in.mp hq).2
      have h9 : cnt σ 3 = npl σ := rfl
      rw [c, h9] at this
      rw [c]
      exact rg _ this
    · unfold ren
      rw [if_neg (fun x => c x.1)]
  have e2 : cel dA (ren ρ σ G) σ q.1 q.2 = cel dA ρ σ q.1 q.2 := cel_old hq (by omega) ren_x (fun _ K2 a b => r2 K2 _ a b) hpp (fun _ => rfl) rfl
  have e3 : cel dA (ren ρ σ G) (mu σ 10 1 3 (G : Int)) q.1 q.2 = cel dA (ren ρ σ G) σ q.1 q.2 := by
    by_cases c : q.1 = 10 ∧ q.2 = 1
    · rw [c.1, c.2]; exact cel_re
    · exact cel_mu (by decide) c
  rw [e1, e3, e2]
theorem EvA.re {mc ms j G : Nat} {av : List AV} (hn : nrl av = true) (hG : npl σ ≤ G) (h0 : ∀ w, w < 4 → ¬ w = 1 → (σ 10 w 3).toNat < npl σ) (h4 : (σ 4 0 9).toNat < npl σ) (h : EvA d mc ms j av (mu σ 10 1 3 (G : Int)) K) : EvA d mc ms j av σ K := by
  intro l D dA ρ sz
  have H := h l D dA (ren ρ σ G) sz
  rw [wld_re hG h0 h4, map_ext hn ren_x] at H
  intro p e h1 h2 h3 s m args below g4 g5 g6 g7
  obtain ⟨ga, q1, qP, qK, qD, qT, qS⟩ := g6
  obtain ⟨n, o, a, b, c, ⟨⟨r9, ρ', σ', x1, x2⟩, x5⟩, r⟩ := H p e h1 h2 h3 s m args below g4 g5 ⟨ga, q1, qP, qK, qD, ST_ext ren_x qT, qS⟩ g7
  exact ⟨n, o, a, b, c, ⟨⟨r9, ρ', σ', (ren_x (G := G)).tr x1, x2⟩, x5⟩, r⟩
/-! what a tray's readers see: its own numbers alone -/
variable {f g : Int → Int}
theorem tel_c : ∀ (n : Nat) (k : Int) (a : BV), (∀ i : Int, k ≤ i → i < k + n → f i = g i) → tel lw ll f n k a = tel lw ll g n k a := by
  intro n
  induction n with
  | zero => intro k a _; rfl
  | succ n ih =>
    intro k a h
    have e := h k (by omega) (by omega)
    have t1 : tel lw ll f (n + 1) k a = if whyN a lw ll (f k) = 0 then tel lw ll f n (k + 1) (mBr lw 8 (doA a (f k))) else (k, whyN a lw ll (f k), a) := rfl
    have t2 : tel lw ll g (n + 1) k a = if whyN a lw ll (g k) = 0 then tel lw ll g n (k + 1) (mBr lw 8 (doA a (g k))) else (k, whyN a lw ll (g k), a) := rfl
    rw [t1, t2, e, ih (k + 1) _ (fun i a b => h i (by omega) (by omega))]
theorem ppl_c {P : Int} : ∀ (n : Nat) (k s : Int), (∀ i : Int, k ≤ i → i < k + n → f i = g i) → ppl f P n k s = ppl g P n k s := by
  intro n
  induction n with
  | zero => intro k s _; rfl
  | succ n ih =>
    intro k s h
    have e := h k (by omega) (by omega)
    have t1 : ppl f P (n + 1) k s = ((0 ≤ f k ∧ f k < P) ∧ s / 2 ^ (f k).toNat % 2 = 0 ∧ ppl f P n (k + 1) (ior s (2 ^ (f k).toNat))) := rfl
    have t2 : ppl g P (n + 1) k s = ((0 ≤ g k ∧ g k < P) ∧ s / 2 ^ (g k).toNat % 2 = 0 ∧ ppl g P n (k + 1) (ior s (2 ^ (g k).toNat))) := rfl
    rw [t1, t2, e, ih (k + 1) _ (fun i a b => h i (by omega) (by omega))]
theorem lst_c : ∀ (n : Nat) (k c : Int), (∀ i : Int, k ≤ i → i < k + n → f i = g i) → lst f n k c = lst g n k c := by
  intro n
  induction n with
  | zero => intro k c _; rfl
  | succ n ih =>
    intro k c h
    have e := h k (by omega) (by omega)
    have t1 : lst f (n + 1) k c = lst f n (k + 1) (if f k < c then f k else c) := rfl
    have t2 : lst g (n + 1) k c = lst g n (k + 1) (if g k < c then g k else c) := rfl
    rw [t1, t2, e, ih (k + 1) _ (fun i a b => h i (by omega) (by omega))]
theorem lsr_c {m : Int} (hm : 2 ≤ m) (h : ∀ i : Int, 0 ≤ i → i < m → f i = g i) : lsr a f m = lsr a g m := by
  unfold lsr
  refine lst_c _ _ _ (fun i a1 a2 => ?_)
  unfold rg
  have b1 := Int.emod_nonneg (i + 1) (show m ≠ 0 by omega)
  have b2 := Int.emod_lt_of_pos (i + 1) (show 0 < m by omega)
  rw [h i a1 (by omega), h _ b1 b2]
theorem rix_c {m k : Int} (hm : 2 ≤ m) (hk : 0 ≤ k ∧ k < m) (h : ∀ i : Int, 0 ≤ i → i < m → f i = g i) : rix f m k = rix g m k := by
  unfold rix
  have b1 := Int.emod_nonneg (k + 1) (show m ≠ 0 by omega)
  have b2 := Int.emod_lt_of_pos (k + 1) (show 0 < m by omega)
  rw [h k hk.1 hk.2, h _ b1 b2]
theorem rgA_c {m L : Int} (hm : 2 ≤ m) (h : ∀ i : Int, 0 ≤ i → i < m → f i = g i) : ∀ n : Nat, (n : Int) ≤ m → rgA a f m L n = rgA a g m L n := by
  intro n
  induction n with
  | zero => intro _; rfl
  | succ n ih =>
    intro hn
    have t1 : rgA a f m L (n + 1) = vu (rgA a f m L n) (rix f m n) (rgA a f m L n (rix f m n) - L) := rfl
    have t2 : rgA a g m L (n + 1) = vu (rgA a g m L n) (rix g m n) (rgA a g m L n (rix g m n) - L) := rfl
    rw [t1, t2, ih (by omega), rix_c hm ⟨by omega, by omega⟩ h]
theorem rowR_c {m : Int} {lag : Int → Int} (h : ∀ i : Int, 0 ≤ i → i < m → f i = g i) : rowR a lw m f lag = rowR a lw m g lag := by
  have e : ∀ s : Int, rlie a lw f lag s m.toNat = rlie a lw g lag s m.toNat := fun s => by
    funext k
    unfold rlie
    exact sumZ_congr _ (fun i a1 a2 => by rw [h i a1 (by omega)])
  have e2 : rBad a lw m f lag = rBad a lw m g lag := by
    funext s k
    unfold rBad
    rw [e]
  unfold rowR
  rw [e2]
theorem tnL_c (h : ∀ i : Int, 0 ≤ i → i < a 2 → f i = g i) : tnL a lw f = tnL a lw g := by
  have e : ∀ p q : Int, fitP a lw f p q = fitP a lw g p q := fun p q => by
    unfold fitP
    apply propext
    constructor
    · rintro ⟨h1, h2⟩
      exact ⟨h1, fun r a b => by rw [← h r a b]; exact h2 r a b⟩
    · rintro ⟨h1, h2⟩
      exact ⟨h1, fun r a b => by rw [h r a b]; exact h2 r a b⟩
  have e2 : tnS a lw f = tnS a lw g := by
    funext p q l
    unfold tnS
    rw [e]
  unfold tnL
  rw [e2]
/-! days, bounded -/
theorem mBr_18 : ∀ (n : Nat) (a : BV), mBr lw n a 18 = a 18 := by
  intro n
  induction n with
  | zero => intro a; rfl
  | succ n ih =>
    intro a
    by_cases c : frst a (lie a lw) = -1
    · have e2 : mBr lw (n + 1) a = a := by show (if frst a (lie a lw) = -1 then a else _) = a; rw [if_pos c]
      rw [e2]
    · have e2 : mBr lw (n + 1) a = mBr lw n (brk a (frst a (lie a lw))) := by show (if frst a (lie a lw) = -1 then a else mBr lw n (brk a (frst a (lie a lw)))) = _; rw [if_neg c]
      rw [e2, ih]
      unfold brk brkz
      rw [if_neg (by decide), if_neg (by omega)]
theorem tel_d : ∀ (n : Nat) (k : Int) (a : BV), OkA a → a 18 + n < 1000000000 → (tel lw ll f n k a).2.2 18 ≤ a 18 + n := by
  intro n
  induction n with
  | zero => intro k a _ _; show a 18 ≤ a 18 + 0; omega
  | succ n ih =>
    intro k a ho hd
    have t1 : tel lw ll f (n + 1) k a = if whyN a lw ll (f k) = 0 then tel lw ll f n (k + 1) (mBr lw 8 (doA a (f k))) else (k, whyN a lw ll (f k), a) := rfl
    rw [t1]
    by_cases c : whyN a lw ll (f k) = 0
    · rw [if_pos c]
      obtain ⟨h1, h2, h3, h4⟩ := dn_all ho (by omega) c
      have := ih (k + 1) _ h1 (by omega)
      omega
    · rw [if_neg c]
      show a 18 ≤ _
      omega
theorem dys_d : ∀ (n : Nat) (a : BV) (s : Int), OkA a → a 18 + n < 1000000000 → (dys lw n a s).2 18 ≤ a 18 + n := by
  intro n
  induction n with
  | zero => intro a s _ _; show a 18 ≤ a 18 + 0; omega
  | succ n ih =>
    intro a s ho hd
    obtain ⟨h1, h2, h3⟩ := day_all (lw := lw) ho (by omega)
    have := ih (mBr lw 8 (dayA a)) (s + mBr lw 8 (dayA a) 19) h1 (by omega)
    have t1 : dys lw (n + 1) a s = dys lw n (mBr lw 8 (dayA a)) (s + mBr lw 8 (dayA a) 19) := rfl
    rw [t1]
    omega
theorem OkA_20 {v : Int} (h : OkA a) : OkA (vu a 20 v) := by
  have e : ∀ j : Nat, ¬ j = 20 → vu a 20 v j = a j := fun j hj => vu_ne hj
  obtain ⟨h1, h2, h3, h4, h5, h6, h7, h8, h9, h10, h11, h12, h13, h14⟩ := h
  refine ⟨?_, ?_, ?_, fun k hk => ?_, ?_, ?_, trivial, ?_, fun k hk => ?_, fun p hp => ?_, fun k hk => ?_, fun p hp => ?_, fun p q hp hq => ?_, fun k => ?_⟩
  · rw [e 1 (by decide)]; exact h1
  · rw [e 2 (by decide)]; exact h2
  · rw [e 3 (by decide)]; exact h3
  · rw [e _ (by omega)]; exact h4 k hk
  · rw [e 18 (by decide)]; exact h5
  · rw [e 19 (by decide)]; exact h6
  · rw [e 21 (by decide)]; exact h8
  · rw [e _ (by omega)]; exact h9 k hk
  · rw [e _ (by omega), e 1 (by decide)]; exact h10 p hp
  · rw [e _ (by omega)]; exact h11 k hk
  · rw [e _ (by omega)]; exact h12 p hp
  · rw [e 2 (by decide), e _ (by omega)]; exact h13 p q hp hq
  · rw [e 1 (by decide), e 21 (by decide)]; exact h14 k
theorem ssn_d : ∀ (n : Nat) (a : BV) (s : Int), OkA a → a 18 + n < 1000000000 → (ssn lw ll n a s).2 18 ≤ a 18 + n := by
  intro n
  induction n with
  | zero => intro a s _ _; show a 18 ≤ a 18 + 0; omega
  | succ n ih =>
    intro a s ho hd
    have hd2 : OkA (drnA a) := OkA_20 ho
    have e18 : drnA a 18 = a 18 := drnA_18
    have t1 : ssn lw ll (n + 1) a s = if whyN (drnA a) lw ll (drnV (a 20)) = 0 then ssn lw ll n (mBr lw 8 (doA (drnA a) (drnV (a 20)))) (s + 1) else ssn lw ll n (drnA a) s := rfl
    rw [t1]
    by_cases c : whyN (drnA a) lw ll (drnV (a 20)) = 0
    · rw [if_pos c]
      obtain ⟨h1, h2, h3, h4⟩ := dn_all hd2 (by omega) c
      have := ih _ (s + 1) h1 (by omega)
      omega
    · rw [if_neg c]
      have := ih _ s hd2 (by omega)
      omega
end RE
