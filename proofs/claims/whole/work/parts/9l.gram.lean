/-! 9l: the laws' grammar as one pure reader -/
abbrev Gres : Type := (Int × List Int) ⊕ (Int × Int)
def gbd (r : Gres) (k : Int → List Int → Gres) : Gres := match r with
  | .inl q => k q.1 q.2
  | .inr e => .inr e
theorem gbd_l {s : Int} {c : List Int} {k : Int → List Int → Gres} : gbd (.inl (s, c)) k = k s c := rfl
theorem gbd_r {e : Int × Int} {k : Int → List Int → Gres} : gbd (.inr e) k = .inr e := rfl
/-- rules: 0 atom, 1 more of a term, 2 term, 3 more of a sum, 4 sum, 5 unit, 6 more of both, 7 both, 8 more of a truth, 9 truth; e: how deep it may still go -/
noncomputable def gra (T : Int → Int) (L g : Int) : Nat → Nat → Nat → Int → List Int → Gres
  | 0, _, _, s, _ => .inr (1, s)
  | n + 1, r, e, s, cs => match r with
    | 0 => if lxK T L s = 24 then .inl (nxs T L s, cs ++ [tnm T L s]) else if ¬ wrdF g (lxK T L s) = -1 then .inl (nxs T L s, cs ++ [1000 + wrdF g (lxK T L s)])
        else if lxK T L s = 35 then (match e with
          | 0 => .inr (4, s)
          | e + 1 => gbd (gra T L g n 4 e (nxs T L s) cs) (fun s1 c1 => if lxK T L s1 = 36 then .inl (nxs T L s1, c1) else .inr (flt T L s1, s1)))
        else .inr (flt T L s, s)
    | 1 => if lxK T L s = 34 then gbd (gra T L g n 0 e (nxs T L s) cs) (fun s1 c1 => gra T L g n 1 e s1 (c1 ++ [3002])) else .inl (s, cs)
    | 2 => gbd (gra T L g n 0 e s cs) (fun s1 c1 => gra T L g n 1 e s1 c1)
    | 3 => if lxK T L s = 32 ∨ lxK T L s = 33 then gbd (gra T L g n 2 e (nxs T L s) cs) (fun s1 c1 => gra T L g n 3 e s1 (c1 ++ [if lxK T L s = 32 then 3000 else 3001])) else .inl (s, cs)
    | 4 => gbd (gra T L g n 2 e s cs) (fun s1 c1 => gra T L g n 3 e s1 c1)
    | 5 => if lxK T L s = 22 then (match e with
          | 0 => .inr (4, s)
          | e + 1 => gbd (gra T L g n 5 e (nxs T L s) cs) (fun s1 c1 => .inl (s1, c1 ++ [3006])))
        else if lxK T L s = 37 then (match e with
          | 0 => .inr (4, s)
          | e + 1 => gbd (gra T L g n 9 e (nxs T L s) cs) (fun s1 c1 => if lxK T L s1 = 38 then .inl (nxs T L s1, c1) else .inr (flt T L s1, s1)))
        else gbd (gra T L g n 4 e s cs) (fun s1 c1 => if lxK T L s1 = 39 ∨ lxK T L s1 = 40 ∨ lxK T L s1 = 41 then
            gbd (gra T L g n 4 e (nxs T L s1) c1) (fun s2 c2 => .inl (s2, c2 ++ [lxK T L s1 + 2964]))
          else .inr (flt T L s1, s1))
    | 6 => if lxK T L s = 20 then gbd (gra T L g n 5 e (nxs T L s) cs) (fun s1 c1 => gra T L g n 6 e s1 (c1 ++ [3007])) else .inl (s, cs)
    | 7 => gbd (gra T L g n 5 e s cs) (fun s1 c1 => gra T L g n 6 e s1 c1)
    | 8 => if lxK T L s = 21 then gbd (gra T L g n 7 e (nxs T L s) cs) (fun s1 c1 => gra T L g n 8 e s1 (c1 ++ [3008])) else .inl (s, cs)
    | _ => gbd (gra T L g n 7 e s cs) (fun s1 c1 => gra T L g n 8 e s1 c1)
section GRE
variable {T : Int → Int} {L g : Int} {n e : Nat} {s : Int} {cs : List Int}
theorem gra_0 : gra T L g (n + 1) 0 e s cs = if lxK T L s = 24 then .inl (nxs T L s, cs ++ [tnm T L s]) else if ¬ wrdF g (lxK T L s) = -1 then .inl (nxs T L s, cs ++ [1000 + wrdF g (lxK T L s)])
        else if lxK T L s = 35 then (match e with
          | 0 => .inr (4, s)
          | e + 1 => gbd (gra T L g n 4 e (nxs T L s) cs) (fun s1 c1 => if lxK T L s1 = 36 then .inl (nxs T L s1, c1) else .inr (flt T L s1, s1)))
        else .inr (flt T L s, s) := rfl
theorem gra_1 : gra T L g (n + 1) 1 e s cs = if lxK T L s = 34 then gbd (gra T L g n 0 e (nxs T L s) cs) (fun s1 c1 => gra T L g n 1 e s1 (c1 ++ [3002])) else .inl (s, cs) := rfl
theorem gra_2 : gra T L g (n + 1) 2 e s cs = gbd (gra T L g n 0 e s cs) (fun s1 c1 => gra T L g n 1 e s1 c1) := rfl
theorem gra_3 : gra T L g (n + 1) 3 e s cs = if lxK T L s = 32 ∨ lxK T L s = 33 then gbd (gra T L g n 2 e (nxs T L s) cs) (fun s1 c1 => gra T L g n 3 e s1 (c1 ++ [if lxK T L s = 32 then 3000 else 3001])) else .inl (s, cs) := rfl
theorem gra_4 : gra T L g (n + 1) 4 e s cs = gbd (gra T L g n 2 e s cs) (fun s1 c1 => gra T L g n 3 e s1 c1) := rfl
theorem gra_5 : gra T L g (n + 1) 5 e s cs = if lxK T L s = 22 then (match e with
          | 0 => .inr (4, s)
          | e + 1 => gbd (gra T L g n 5 e (nxs T L s) cs) (fun s1 c1 => .inl (s1, c1 ++ [3006])))
        else if lxK T L s = 37 then (match e with
          | 0 => .inr (4, s)
          | e + 1 => gbd (gra T L g n 9 e (nxs T L s) cs) (fun s1 c1 => if lxK T L s1 = 38 then .inl (nxs T L s1, c1) else .inr (flt T L s1, s1)))
        else gbd (gra T L g n 4 e s cs) (fun s1 c1 => if lxK T L s1 = 39 ∨ lxK T L s1 = 40 ∨ lxK T L s1 = 41 then
            gbd (gra T L g n 4 e (nxs T L s1) c1) (fun s2 c2 => .inl (s2, c2 ++ [lxK T L s1 + 2964]))
          else .inr (flt T L s1, s1)) := rfl
theorem gra_6 : gra T L g (n + 1) 6 e s cs = if lxK T L s = 20 then gbd (gra T L g n 5 e (nxs T L s) cs) (fun s1 c1 => gra T L g n 6 e s1 (c1 ++ [3007])) else .inl (s, cs) := rfl
theorem gra_7 : gra T L g (n + 1) 7 e s cs = gbd (gra T L g n 5 e s cs) (fun s1 c1 => gra T L g n 6 e s1 c1) := rfl
theorem gra_8 : gra T L g (n + 1) 8 e s cs = if lxK T L s = 21 then gbd (gra T L g n 7 e (nxs T L s) cs) (fun s1 c1 => gra T L g n 8 e s1 (c1 ++ [3008])) else .inl (s, cs) := rfl
theorem gra_9 : gra T L g (n + 1) 9 e s cs = gbd (gra T L g n 7 e s cs) (fun s1 c1 => gra T L g n 8 e s1 c1) := rfl
theorem gbd_inv {r : Gres} {k : Int → List Int → Gres} {q : Int × List Int} (h : gbd r k = .inl q) : ∃ s1 c1, r = .inl (s1, c1) ∧ k s1 c1 = .inl q := by
  rcases r with ⟨s1, c1⟩ | e
  · exact ⟨s1, c1, rfl, h⟩
  · cases h
theorem gbd_inf {r : Gres} {k : Int → List Int → Gres} {q : Int × Int} (h : gbd r k = .inr q) : r = .inr q ∨ ∃ s1 c1, r = .inl (s1, c1) ∧ k s1 c1 = .inr q := by
  rcases r with ⟨s1, c1⟩ | e
  · exact Or.inr ⟨s1, c1, rfl, h⟩
  · exact Or.inl h
/-- how much a rule's own stack grows, and what it leaves -/
def ghe (r : Nat) : Nat := match r with
  | 0 => 1
  | 1 => 2
  | 2 => 2
  | 3 => 3
  | 4 => 3
  | 5 => 4
  | 6 => 5
  | 7 => 5
  | _ => 6
def gty (r : Nat) : Bool := decide (5 ≤ r)
def glp (r : Nat) : Bool := r == 1 || r == 3 || r == 6 || r == 8
/-- a code that a law g may hold -/
def cdk (g c : Int) : Prop := 1000 ≤ c → c < 3000 → (g = 0 → c ≤ 1005) ∧ (g = 1 → c ≤ 1002 ∨ 1006 ≤ c)
/-- what a success of a rule says -/
def GP (L g : Int) (r e : Nat) (s : Int) (cs : List Int) (s' : Int) (cs' : List Int) : Prop :=
  s ≤ s' ∧ s' ≤ L ∧ (glp r = false → s < s') ∧ ((cs'.length : Int) + s ≤ cs.length + s') ∧ (glp r = false → cs.length < cs'.length) ∧
  ∃ ds, cs' = cs ++ ds ∧ (∀ c ∈ ds, cdk g c) ∧ ∀ ts : List Bool, ts.length + ghe r + 2 * e ≤ 60 → trun ds (if glp r = true then gty r :: ts else ts) = some (gty r :: ts)
theorem trun_app : ∀ (a b : List Int) (ts us : List Bool), trun a ts = some us → trun (a ++ b) ts = trun b us := by
  intro a
  induction a with
  | nil => intro b ts us h; rw [Option.some.inj h]; rfl
  | cons c a ih =>
    intro b ts us h
    simp only [trun, List.cons_append] at h ⊢
    cases hs : tstep c ts with
    | none => rw [hs] at h; cases h
    | some x => rw [hs] at h; exact ih b x us h
theorem wrdF_r {k : Int} (h : ¬ wrdF g k = -1) : 0 ≤ wrdF g k ∧ wrdF g k ≤ 8 ∧ (g = 0 → wrdF g k ≤ 5) ∧ (g = 1 → wrdF g k ≤ 2 ∨ 6 ≤ wrdF g k) := by
  unfold wrdF at h ⊢
  revert h
  (repeat' split) <;> intro h <;> omega
theorem wrdF_k {k : Int} (h : ¬ wrdF g k = -1) : 2 ≤ k ∧ k ≤ 19 := by
  unfold wrdF at h
  revert h
  (repeat' split) <;> intro h <;> omega
/-- an operand, then its like, joined by c -/
theorem GP_loop {r q e : Nat} {s s1 s2 : Int} {cs c1 c2 : List Int} {c : Int} (hs : 0 ≤ s ∧ s < L) (h1 : GP L g q e (nxs T L s) cs s1 c1) (h2 : GP L g r e s1 (c1 ++ [c]) s2 c2) (hr : glp r = true) (hq : glp q = false) (he : gty q = gty r) (hh : ghe r = ghe q + 1) (hc : 3000 ≤ c) (ht : ∀ ts : List Bool, tstep c (gty r :: gty r :: ts) = some (gty r :: ts)) : GP L g r e s cs s2 c2 := by
  obtain ⟨a1, a2, a3, a4, a5, ds, rfl, a6, a7⟩ := h1
  obtain ⟨b1, b2, b3, b4, b5, es, rfl, b6, b7⟩ := h2
  have nx := nxs_b (T := T) (L := L) (s := s) ⟨hs.1, by omega⟩
  have a3 := a3 hq
  simp only [List.length_append, List.length_cons, List.length_nil] at a4 b4 a5 b5 ⊢
  refine ⟨by omega, b2, fun x => (by rw [hr] at x; cases x), ?_, fun x => (by rw [hr] at x; cases x), ds ++ ([c] ++ es), by simp, ?_, ?_⟩
  · simp only [List.length_append, List.length_cons, List.length_nil]
    omega
  · intro x hx
    rcases List.mem_append.mp hx with h | h
    · exact a6 x h
    · rcases List.mem_append.mp h with h | h
      · rw [List.mem_singleton.mp h]
        intro _ y
        omega
      · exact b6 x h
  · intro ts hl
    rw [if_pos hr]
    have a7 := a7 (gty r :: ts) (by simp only [List.length_cons]; omega)
    rw [hq] at a7
    have a7 : trun ds (gty r :: ts) = some (gty q :: gty r :: ts) := a7
    rw [trun_app _ _ _ _ a7, he]
    show (match tstep c (gty r :: gty r :: ts) with | some st' => trun es st' | none => none) = _
    rw [ht ts]
    have b7 := b7 ts hl
    rw [if_pos hr] at b7
    exact b7
theorem GP_seq {r q p e : Nat} {s s1 s2 : Int} {cs c1 c2 : List Int} (h1 : GP L g q e s cs s1 c1) (h2 : GP L g r e s1 c1 s2 c2) (hr : glp r = true) (hq : glp q = false) (hp : glp p = false) (he : gty q = gty r) (hep : gty p = gty r) (hh : ghe q + 1 = ghe p) (hh2 : ghe r = ghe p) : GP L g p e s cs s2 c2 := by
  obtain ⟨a1, a2, a3, a4, a5, ds, rfl, a6, a7⟩ := h1
  obtain ⟨b1, b2, b3, b4, b5, es, rfl, b6, b7⟩ := h2
  have a3 := a3 hq
  have a5 := a5 hq
  simp only [List.length_append] at a4 b4 a5 b5 ⊢
  refine ⟨by omega, b2, fun _ => by omega, ?_, fun _ => ?_, ds ++ es, by simp, ?_, ?_⟩
  · simp only [List.length_append]; omega
  · simp only [List.length_append]; omega
  · intro x hx
    rcases List.mem_append.mp hx with h | h
    · exact a6 x h
    · exact b6 x h
  · intro ts hl
    rw [hp]
    have a7 := a7 ts (by omega)
    rw [hq] at a7
    have a7 : trun ds ts = some (gty q :: ts) := a7
    show trun (ds ++ es) ts = _
    rw [trun_app _ _ _ _ a7, he, hep]
    have b7 := b7 ts (by omega)
    rw [if_pos hr] at b7
    exact b7
theorem GP_nil {r e : Nat} {s : Int} {cs : List Int} (hr : glp r = true) (hs : 0 ≤ s ∧ s ≤ L) : GP L g r e s cs s cs := by
  refine ⟨by omega, hs.2, fun x => (by rw [hr] at x; cases x), by omega, fun x => (by rw [hr] at x; cases x), [], by simp, fun c h => absurd h List.not_mem_nil, fun ts _ => ?_⟩
  rw [if_pos hr]
  rfl
theorem GP_push {e : Nat} {s : Int} {cs : List Int} {c : Int} (hs : 0 ≤ s ∧ s < L) (hc : 0 ≤ c ∧ c < 1009) (hk : cdk g c) : GP L g 0 e s cs (nxs T L s) (cs ++ [c]) := by
  have nx := nxs_b (T := T) (L := L) (s := s) ⟨hs.1, by omega⟩
  refine ⟨by omega, nx.2.1, fun _ => by omega, by simp; omega, fun _ => by simp, [c], rfl, fun x hx => (by rw [List.mem_singleton.mp hx]; exact hk), fun ts hl => ?_⟩
  have hl : ts.length + 1 + 2 * e ≤ 60 := hl
  show (match tstep c ts with | some st' => trun [] st' | none => none) = some (false :: ts)
  have : tstep c ts = some (false :: ts) := by
    unfold tstep
    rw [if_pos hc, if_pos (by omega)]
  rw [this]
  rfl
/-- within brackets -/
theorem GP_in {r q e : Nat} {s s1 : Int} {cs c1 : List Int} (hs : 0 ≤ s ∧ s < L) (h1 : GP L g q e (nxs T L s) cs s1 c1) (hs1 : s1 < L) (hr : glp r = false) (hq : glp q = false) (he : gty q = gty r) (hh : ghe q ≤ ghe r + 2) : GP L g r (e + 1) s cs (nxs T L s1) c1 := by
  obtain ⟨a1, a2, a3, a4, a5, ds, rfl, a6, a7⟩ := h1
  have nx := nxs_b (T := T) (L := L) (s := s) ⟨hs.1, by omega⟩
  have nx1 := nxs_b (T := T) (L := L) (s := s1) ⟨by omega, by omega⟩
  have a5 := a5 hq
  refine ⟨by omega, nx1.2.1, fun _ => by omega, by omega, fun _ => a5, ds, rfl, a6, fun ts hl => ?_⟩
  have a7 := a7 ts (by omega)
  rw [hq] at a7
  rw [hr, ← he]
  exact a7
set_option maxRecDepth 4000 in
theorem gra_ok : ∀ (n r e : Nat) (s : Int) (cs : List Int) (s' : Int) (cs' : List Int), r < 10 → 0 ≤ s ∧ s ≤ L → gra T L g n r e s cs = .inl (s', cs') → GP L g r e s cs s' cs' := by
  intro n
  induction n with
  | zero => intro r e s cs s' cs' _ _ h; cases h
  | succ n ih =>
    intro r e s cs s' cs' hr hs h
    have K25 := lxK_25 (T := T) (L := L) (s := s)
    have nx := nxs_b (T := T) (L := L) (s := s) hs
    have hr : r = 0 ∨ r = 1 ∨ r = 2 ∨ r = 3 ∨ r = 4 ∨ r = 5 ∨ r = 6 ∨ r = 7 ∨ r = 8 ∨ r = 9 := by omega
    rcases hr with rfl | rfl | rfl | rfl | rfl | rfl | rfl | rfl | rfl | rfl
    · rw [gra_0] at h
      by_cases c1 : lxK T L s = 24
      · rw [if_pos c1] at h
        obtain ⟨rfl, rfl⟩ := Prod.mk.inj (Sum.inl.inj h)
        have := tnm_b c1
        exact GP_push ⟨hs.1, by omega⟩ ⟨by omega, by omega⟩ (fun x _ => by omega)
      · rw [if_neg c1] at h
        by_cases c2 : ¬ wrdF g (lxK T L s) = -1
        · rw [if_pos c2] at h
          obtain ⟨rfl, rfl⟩ := Prod.mk.inj (Sum.inl.inj h)
          have a := wrdF_r c2
          have b := wrdF_k c2
          exact GP_push ⟨hs.1, by omega⟩ ⟨by omega, by omega⟩ (fun x _ => ⟨fun y => by have := a.2.2.1 y; omega, fun y => by have := a.2.2.2 y; omega⟩)
        · rw [if_neg c2] at h
          by_cases c3 : lxK T L s = 35
          · rw [if_pos c3] at h
            cases e with
            | zero => cases h
            | succ e =>
            obtain ⟨s1, d1, h1, h2⟩ := gbd_inv h
            split at h2
            · rename_i c4
              obtain ⟨rfl, rfl⟩ := Prod.mk.inj (Sum.inl.inj h2)
              have K1 := lxK_25 (T := T) (L := L) (s := s1)
              have g1 := ih 4 e _ _ _ _ (by decide) ⟨by omega, nx.2.1⟩ h1
              exact GP_in ⟨hs.1, by omega⟩ g1 (by have := g1.2.1; omega) rfl rfl rfl (by decide)
            · cases h2
          · rw [if_neg c3] at h
            cases h
    · rw [gra_1] at h
      split at h
      · rename_i c
        obtain ⟨s1, d1, h1, h2⟩ := gbd_inv h
        have g1 := ih 0 e _ _ _ _ (by decide) ⟨by omega, nx.2.1⟩ h1
        exact GP_loop ⟨hs.1, by omega⟩ g1 (ih 1 e _ _ _ _ (by decide) ⟨by have := g1.1; omega, g1.2.1⟩ h2) rfl rfl rfl rfl (by decide) (fun ts => rfl)
      · obtain ⟨rfl, rfl⟩ := Prod.mk.inj (Sum.inl.inj h)
        exact GP_nil rfl hs
    · rw [gra_2] at h
      obtain ⟨s1, d1, h1, h2⟩ := gbd_inv h
      have g1 := ih 0 e _ _ _ _ (by decide) hs h1
      exact GP_seq g1 (ih 1 e _ _ _ _ (by decide) ⟨by have := g1.1; omega, g1.2.1⟩ h2) rfl rfl rfl rfl rfl rfl rfl
    · rw [gra_3] at h
      split at h
      · rename_i c
        obtain ⟨s1, d1, h1, h2⟩ := gbd_inv h
        have g1 := ih 2 e _ _ _ _ (by decide) ⟨by omega, nx.2.1⟩ h1
        refine GP_loop ⟨hs.1, by omega⟩ g1 (ih 3 e _ _ _ _ (by decide) ⟨by have := g1.1; omega, g1.2.1⟩ h2) rfl rfl rfl rfl ?_ ?_
        · split <;> decide
        · intro ts
          split <;> rfl
      · obtain ⟨rfl, rfl⟩ := Prod.mk.inj (Sum.inl.inj h)
        exact GP_nil rfl hs
    · rw [gra_4] at h
      obtain ⟨s1, d1, h1, h2⟩ := gbd_inv h
      have g1 := ih 2 e _ _ _ _ (by decide) hs h1
      exact GP_seq g1 (ih 3 e _ _ _ _ (by decide) ⟨by have := g1.1; omega, g1.2.1⟩ h2) rfl rfl rfl rfl rfl rfl rfl
    · rw [gra_5] at h
      by_cases c1 : lxK T L s = 22
      · rw [if_pos c1] at h
        cases e with
        | zero => cases h
        | succ e =>
        obtain ⟨s1, d1, h1, h2⟩ := gbd_inv h
        obtain ⟨rfl, rfl⟩ := Prod.mk.inj (Sum.inl.inj h2)
        obtain ⟨a1, a2, a3, a4, a5, ds, rfl, a6, a7⟩ := ih 5 e _ _ _ _ (by decide) ⟨by omega, nx.2.1⟩ h1
        have a3 := a3 rfl
        have a5 := a5 rfl
        simp only [List.length_append] at a4 a5
        refine ⟨by omega, a2, fun _ => by omega, by simp only [List.length_append, List.length_cons, List.length_nil]; omega, fun _ => by simp only [List.length_append, List.length_cons, List.length_nil]; omega, ds ++ [3006], by simp, ?_, ?_⟩
        · intro x hx
          rcases List.mem_append.mp hx with h | h
          · exact a6 x h
          · rw [List.mem_singleton.mp h]
            intro _ y
            omega
        · intro ts hl
          have hl : ts.length + 4 + 2 * (e + 1) ≤ 60 := hl
          have a7 : trun ds ts = some (true :: ts) := a7 ts (by show ts.length + 4 + 2 * e ≤ 60; omega)
          show trun (ds ++ [3006]) ts = some (true :: ts)
          rw [trun_app _ _ _ _ a7]
          rfl
      · rw [if_neg c1] at h
        by_cases c2 : lxK T L s = 37
        · rw [if_pos c2] at h
          cases e with
          | zero => cases h
          | succ e =>
          obtain ⟨s1, d1, h1, h2⟩ := gbd_inv h
          split at h2
          · rename_i c4
            obtain ⟨rfl, rfl⟩ := Prod.mk.inj (Sum.inl.inj h2)
            have K1 := lxK_25 (T := T) (L := L) (s := s1)
            have g1 := ih 9 e _ _ _ _ (by decide) ⟨by omega, nx.2.1⟩ h1
            exact GP_in ⟨hs.1, by omega⟩ g1 (by have := g1.2.1; omega) rfl rfl rfl (by decide)
          · cases h2
        · rw [if_neg c2] at h
          obtain ⟨s1, d1, h1, h2⟩ := gbd_inv h
          split at h2
          · rename_i c4
            obtain ⟨s2, d2, h3, h4⟩ := gbd_inv h2
            obtain ⟨rfl, rfl⟩ := Prod.mk.inj (Sum.inl.inj h4)
            have K1 := lxK_25 (T := T) (L := L) (s := s1)
            obtain ⟨a1, a2, a3, a4, a5, ds, rfl, a6, a7⟩ := ih 4 e _ _ _ _ (by decide) hs h1
            have nx1 := nxs_b (T := T) (L := L) (s := s1) ⟨by omega, a2⟩
            obtain ⟨b1, b2, b3, b4, b5, es, rfl, b6, b7⟩ := ih 4 e _ _ _ _ (by decide) ⟨by omega, nx1.2.1⟩ h3
            have a3 := a3 rfl
            have a5 := a5 rfl
            have b5 := b5 rfl
            simp only [List.length_append] at a4 a5 b4 b5
            refine ⟨by omega, b2, fun _ => by omega, by simp only [List.length_append, List.length_cons, List.length_nil]; omega, fun _ => by simp only [List.length_append, List.length_cons, List.length_nil]; omega, ds ++ (es ++ [lxK T L s1 + 2964]), by simp, ?_, ?_⟩
            · intro x hx
              rcases List.mem_append.mp hx with h | h
              · exact a6 x h
              · rcases List.mem_append.mp h with h | h
                · exact b6 x h
                · rw [List.mem_singleton.mp h]
                  intro _ y
                  omega
            · intro ts hl
              have hl : ts.length + 4 + 2 * e ≤ 60 := hl
              have a7 : trun ds ts = some (false :: ts) := a7 ts (by show ts.length + 3 + 2 * e ≤ 60; omega)
              have b7 : trun es (false :: ts) = some (false :: false :: ts) := b7 (false :: ts) (by show ts.length + 1 + 3 + 2 * e ≤ 60; omega)
              show trun (ds ++ (es ++ [lxK T L s1 + 2964])) ts = some (true :: ts)
              rw [trun_app _ _ _ _ a7, trun_app _ _ _ _ b7]
              rcases c4 with c4 | c4 | c4
              · rw [c4]; rfl
              · rw [c4]; rfl
              · rw [c4]; rfl
          · cases h2
    · rw [gra_6] at h
      split at h
      · rename_i c
        obtain ⟨s1, d1, h1, h2⟩ := gbd_inv h
        have g1 := ih 5 e _ _ _ _ (by decide) ⟨by omega, nx.2.1⟩ h1
        exact GP_loop ⟨hs.1, by omega⟩ g1 (ih 6 e _ _ _ _ (by decide) ⟨by have := g1.1; omega, g1.2.1⟩ h2) rfl rfl rfl rfl (by decide) (fun ts => rfl)
      · obtain ⟨rfl, rfl⟩ := Prod.mk.inj (Sum.inl.inj h)
        exact GP_nil rfl hs
    · rw [gra_7] at h
      obtain ⟨s1, d1, h1, h2⟩ := gbd_inv h
      have g1 := ih 5 e _ _ _ _ (by decide) hs h1
      exact GP_seq g1 (ih 6 e _ _ _ _ (by decide) ⟨by have := g1.1; omega, g1.2.1⟩ h2) rfl rfl rfl rfl rfl rfl rfl
    · rw [gra_8] at h
      split at h
      · rename_i c
        obtain ⟨s1, d1, h1, h2⟩ := gbd_inv h
        have g1 := ih 7 e _ _ _ _ (by decide) ⟨by omega, nx.2.1⟩ h1
        exact GP_loop ⟨hs.1, by omega⟩ g1 (ih 8 e _ _ _ _ (by decide) ⟨by have := g1.1; omega, g1.2.1⟩ h2) rfl rfl rfl rfl (by decide) (fun ts => rfl)
      · obtain ⟨rfl, rfl⟩ := Prod.mk.inj (Sum.inl.inj h)
        exact GP_nil rfl hs
    · rw [gra_9] at h
      obtain ⟨s1, d1, h1, h2⟩ := gbd_inv h
      have g1 := ih 7 e _ _ _ _ (by decide) hs h1
      exact GP_seq g1 (ih 8 e _ _ _ _ (by decide) ⟨by have := g1.1; omega, g1.2.1⟩ h2) rfl rfl rfl rfl rfl rfl rfl
end GRE
