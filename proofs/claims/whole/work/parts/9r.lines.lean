/-! 9r: lines of a text, purely: what is told so far (a row as the reference has it) and where one stands -/
abbrev Lres : Type := (Int × BV) ⊕ (Int × Int)
noncomputable def tN (T : Int → Int) (L lo hi s : Int) (k : Int → Int → Lres) : Lres := if lxK T L s = 24 then (if lo ≤ tnm T L s ∧ tnm T L s ≤ hi then k (tnm T L s) (nxs T L s) else .inr (3, s)) else .inr (flt T L s, s)
noncomputable def tK (T : Int → Int) (L v s : Int) (k : Int → Lres) : Lres := if lxK T L s = v then k (nxs T L s) else .inr (flt T L s, s)
section LINES
variable {T : Int → Int} {L s lo hi v f : Int} {D : BV}
theorem tN_p {k : Int → Int → Lres} (c : lxK T L s = 24) (w : lo ≤ tnm T L s ∧ tnm T L s ≤ hi) : tN T L lo hi s k = k (tnm T L s) (nxs T L s) := by
  unfold tN
  rw [if_pos c, if_pos w]
theorem tN_f {k : Int → Int → Lres} (h : pN T L lo hi (.inl s) = .inr (f, s)) : tN T L lo hi s k = .inr (f, s) := by
  unfold tN
  by_cases c : lxK T L s = 24
  · rw [if_pos c]
    by_cases w : lo ≤ tnm T L s ∧ tnm T L s ≤ hi
    · rw [pN_p c w] at h
      cases h
    · rw [pN_3 c w] at h
      rw [if_neg w]
      have := (Prod.mk.inj (Sum.inr.inj h)).1
      rw [this]
  · rw [if_neg c]
    rw [pN_n c] at h
    have := (Prod.mk.inj (Sum.inr.inj h)).1
    rw [this]
theorem tK_p {k : Int → Lres} (c : lxK T L s = v) : tK T L v s k = k (nxs T L s) := by
  unfold tK
  rw [if_pos c]
theorem tK_n {k : Int → Lres} (c : ¬ lxK T L s = v) : tK T L v s k = .inr (flt T L s, s) := by
  unfold tK
  rw [if_neg c]
noncomputable def L_plank (T : Int → Int) (L s : Int) (D : BV) : Lres := tN T L 0 (D 1 - 1) (nxs T L s) (fun k s2 => tK T L 3 s2 (fun s3 => tN T L 0 999 s3 (fun b s4 => .inl (s4, vu D (10 + k).toNat b))))
noncomputable def plL (T : Int → Int) (L : Int) (D : BV) : Nat → Int → Int → Lres
  | 0, s, _ => .inr (1, s)
  | n + 1, s, p => if lxK T L s = 5 then tN T L 0 (D 1 + 1) (nxs T L s) (fun v s2 => plL T L D n s2 v) else .inl (s, vu (vu D 2 (D 2 + 1)) (30 + D 2).toNat p)
noncomputable def L_person (T : Int → Int) (L s : Int) (D : BV) : Lres := if D 2 = 6 then .inr (4, s) else plL T L D 1000 (nxs T L s) 0
noncomputable def L_paper (T : Int → Int) (L s : Int) (D : BV) : Lres := tN T L 0 (D 2 - 1) (nxs T L s) (fun p s2 => tK T L 7 s2 (fun s3 => if lxK T L s3 = 24 ∧ tnm T L s3 = p then .inr (3, s3) else
  tN T L 0 (D 2 - 1) s3 (fun q s4 => tK T L 8 s4 (fun s5 => tN T L 1 99 s5 (fun m s6 => .inl (s6, vu D (36 + 6 * p + q).toNat m))))))
def putL (D : BV) (g : Nat) (cs : List Int) : BV := fun j => if j = 4 + g then 1 else if j = 6 + g then D 613 else if j = 8 + g then cs.length else if j = 613 then D 613 + cs.length else if 614 + (D 613).toNat ≤ j ∧ j < 614 + (D 613).toNat + cs.length then cs.getD (j - 614 - (D 613).toNat) 0 else D j
noncomputable def L_law (T : Int → Int) (L s : Int) (g : Nat) (D : BV) : Lres := tK T L 31 (nxs T L s) (fun s2 => match gra T L g 20000 (if g = 0 then 4 else 9) 6 s2 [] with
  | .inl q => .inl (q.1, putL D g q.2)
  | .inr e => .inr e)
noncomputable def L_one (T : Int → Int) (L s : Int) (D : BV) : Lres := if lxK T L s = 2 then L_plank T L s D else if lxK T L s = 4 then L_person T L s D else if lxK T L s = 6 then L_paper T L s D else if lxK T L s = 9 then L_law T L s 0 D else if lxK T L s = 10 then L_law T L s 1 D
  else if lxK T L s = 11 then tN T L 0 10 (nxs T L s) (fun v s2 => .inl (s2, vu D 3 v)) else if lxK T L s = 12 then tN T L 0 999 (nxs T L s) (fun v s2 => .inl (s2, vu D 18 v)) else .inr (flt T L s, s)
noncomputable def L_end (T : Int → Int) (L : Int) (x : Lres) : Lres := match x with
  | .inl q => tK T L 30 q.1 (fun s2 => .inl (s2, vu q.2 0 (q.2 0 + 1)))
  | .inr e => .inr e
noncomputable def L_lines (T : Int → Int) (L : Int) : Nat → Int → BV → Lres
  | 0, s, _ => .inr (1, s)
  | n + 1, s, D => if lxK T L s = 25 then .inl (s, D) else match L_end T L (L_one T L s D) with
    | .inl q => L_lines T L n q.1 q.2
    | .inr e => .inr e
def D_0 (N b : Int) : BV := fun j => if j = 1 then N else if 10 ≤ j ∧ j < 18 then b else 0
noncomputable def L_first (T : Int → Int) (L : Int) : Lres := tK T L 0 (lxS T L 0) (fun s1 => tN T L 1 8 s1 (fun N s2 => tK T L 1 s2 (fun s3 => tN T L 0 999 s3 (fun b s4 => .inl (s4, D_0 N b)))))
noncomputable def L_all (T : Int → Int) (L : Int) : Lres := match L_end T L (L_first T L) with
  | .inl q => L_lines T L 1000 q.1 q.2
  | .inr e => .inr e
theorem tN_inv {k : Int → Int → Lres} {q : Int × BV} (h : tN T L lo hi s k = .inl q) : lxK T L s = 24 ∧ (lo ≤ tnm T L s ∧ tnm T L s ≤ hi) ∧ k (tnm T L s) (nxs T L s) = .inl q := by
  unfold tN at h
  split at h
  · split at h
    · exact ⟨by assumption, by assumption, h⟩
    · cases h
  · cases h
theorem tK_inv {k : Int → Lres} {q : Int × BV} (h : tK T L v s k = .inl q) : lxK T L s = v ∧ k (nxs T L s) = .inl q := by
  unfold tK at h
  split at h
  · exact ⟨by assumption, h⟩
  · cases h
/-- a sound draft, s bytes read -/
def DOk (D : BV) (s : Int) : Prop :=
  (1 ≤ D 1 ∧ D 1 ≤ 8) ∧ (0 ≤ D 2 ∧ D 2 ≤ 6) ∧ (0 ≤ D 3 ∧ D 3 ≤ 10) ∧ (∀ k : Nat, k < 8 → 0 ≤ D (10 + k) ∧ D (10 + k) ≤ 999) ∧ (0 ≤ D 18 ∧ D 18 ≤ 999) ∧ (∀ j : Nat, 19 ≤ j → j < 30 → D j = 0) ∧
  (∀ p : Nat, p < 6 → 0 ≤ D (30 + p) ∧ D (30 + p) ≤ D 1 + 1 ∧ (D 2 ≤ (p : Int) → D (30 + p) = 0)) ∧ (∀ k : Nat, k < 36 → 0 ≤ D (36 + k) ∧ D (36 + k) ≤ 99) ∧ (∀ p : Nat, p < 6 → D (36 + 7 * p) = 0) ∧
  (∀ p q : Nat, p < 6 → q < 6 → (D 2 ≤ (p : Int) ∨ D 2 ≤ (q : Int)) → D (36 + 6 * p + q) = 0) ∧ (∀ j : Nat, 72 ≤ j → j < 613 → D j = 0) ∧ (0 ≤ D 0 ∧ D 0 ≤ s) ∧ (0 ≤ D 613 ∧ D 613 ≤ s) ∧ LawA D ∧ (∀ law : Nat, law < 2 → D (4 + law) = 1 → D (6 + law) + D (8 + law) ≤ D 613)
theorem DOk.ok (h : DOk D s) : OkA D := by
  obtain ⟨h1, h2, h3, h4, h5, h6, h7, h8, h9, h10, h11, h12, h13, h14, h15⟩ := h
  refine ⟨h1, h2, h3, h4, ⟨h5.1, by omega⟩, Or.inl (h6 19 (by decide) (by decide)), trivial, ?_, fun k hk => ?_, fun p hp => ?_, h8, h9, h10, fun k hk => ?_⟩
  · rw [h6 21 (by decide) (by decide)]; decide
  · rw [h6 (22 + k) (by omega) (by omega)]; decide
  · have := h7 p hp
    omega
  · rw [h6 21 (by decide) (by decide), Int.zero_ediv]
    rfl
theorem DOk.law (h : DOk D s) : LawA D := h.2.2.2.2.2.2.2.2.2.2.2.2.2.1
theorem DOk.N (h : DOk D s) : 1 ≤ D 1 ∧ D 1 ≤ 8 := h.1
theorem DOk.P (h : DOk D s) : 0 ≤ D 2 ∧ D 2 ≤ 6 := h.2.1
theorem DOk.cnt (h : DOk D s) : 0 ≤ D 613 ∧ D 613 ≤ s := h.2.2.2.2.2.2.2.2.2.2.2.2.1
theorem DOk.lin (h : DOk D s) : 0 ≤ D 0 ∧ D 0 ≤ s := h.2.2.2.2.2.2.2.2.2.2.2.1
theorem DOk.pl (h : DOk D s) {p : Nat} (hp : p < 6) (h2 : D 2 ≤ (p : Int)) : D (30 + p) = 0 := (h.2.2.2.2.2.2.1 p hp).2.2 h2
theorem DOk_vu {s' : Int} {i : Nat} (h : DOk D s) (hs : s ≤ s') (hi : (i = 0 ∧ 0 ≤ v ∧ v ≤ s') ∨ (i = 2 ∧ v = D 2 + 1 ∧ v ≤ 6) ∨ (i = 3 ∧ 0 ≤ v ∧ v ≤ 10) ∨ (10 ≤ i ∧ i < 18 ∧ 0 ≤ v ∧ v ≤ 999) ∨ (i = 18 ∧ 0 ≤ v ∧ v ≤ 999) ∨ (30 ≤ i ∧ i < 36 ∧ 0 ≤ v ∧ v ≤ D 1 + 1 ∧ (i : Int) - 30 < D 2) ∨ (0 ≤ v ∧ v ≤ 99 ∧ ∃ p q : Nat, i = 36 + 6 * p + q ∧ (p : Int) < D 2 ∧ (q : Int) < D 2 ∧ ¬ p = q)) : DOk (vu D i v) s' := by
  obtain ⟨h1, h2, h3, h4, h5, h6, h7, h8, h9, h10, h11, h12, h13, h14, h15⟩ := h
  have ib : i < 72 ∧ ¬ (4 ≤ i ∧ i < 10) ∧ ¬ i = 1 ∧ ¬ (19 ≤ i ∧ i < 30) := by
    rcases hi with hi | hi | hi | hi | hi | hi | ⟨_, _, p, q, hi⟩ <;> omega
  have e : ∀ j : Nat, ¬ j = i → vu D i v j = D j := fun j => vu_ne
  have ek : vu D i v i = v := vu_eq
  have e1 := e 1 (by omega)
  have e2 : vu D i v 2 = D 2 ∨ (vu D i v 2 = D 2 + 1 ∧ i = 2 ∧ D 2 + 1 ≤ 6) := by
    by_cases c : i = 2
    · right
      subst c
      rw [ek]
      rcases hi with hi | hi | hi | hi | hi | hi | ⟨_, _, p, q, hi⟩ <;> omega
    · left
      exact e 2 (by omega)
  refine ⟨by rw [e1]; exact h1, ?_, ?_, fun k hk => ?_, ?_, fun j a b => ?_, fun p hp => ?_, fun k hk => ?_, fun p hp => ?_, fun p q hp hq hh => ?_, fun j a b => ?_, ?_, ?_, ?_, fun law hl => ?_⟩
  · omega
  · by_cases c : i = 3
    · subst c
      rw [ek]
      rcases hi with hi | hi | hi | hi | hi | hi | ⟨_, _, p, q, hi⟩ <;> omega
    · rw [e 3 (by omega)]; exact h3
  · by_cases c : 10 + k = i
    · rw [c, ek]
      rcases hi with hi | hi | hi | hi | hi | hi | ⟨_, _, p, q, hi⟩ <;> omega
    · rw [e _ c]; exact h4 k hk
  · by_cases c : i = 18
    · subst c
      rw [ek]
      rcases hi with hi | hi | hi | hi | hi | hi | ⟨_, _, p, q, hi⟩ <;> omega
    · rw [e 18 (by omega)]; exact h5
  · rw [e j (by omega)]; exact h6 j a b
  · have h7 := h7 p hp
    rw [e1]
    by_cases c : 30 + p = i
    · rw [c, ek]
      rcases hi with hi | hi | hi | hi | hi | hi | ⟨_, _, p, q, hi⟩ <;> omega
    · rw [e _ c]
      refine ⟨h7.1, h7.2.1, fun x => h7.2.2 (by omega)⟩
  · by_cases c : 36 + k = i
    · rw [c, ek]
      rcases hi with hi | hi | hi | hi | hi | hi | ⟨_, _, p, q, hi⟩ <;> omega
    · rw [e _ c]; exact h8 k hk
  · rw [e _ ?_]
    · exact h9 p hp
    · rcases hi with hi | hi | hi | hi | hi | hi | ⟨_, _, p, q, hi⟩ <;> omega
  · rw [e _ ?_]
    · exact h10 p q hp hq (by omega)
    · rcases hi with hi | hi | hi | hi | hi | hi | ⟨_, _, p', q', hi⟩ <;> omega
  · rw [e j (by omega)]; exact h11 j a b
  · by_cases c : i = 0
    · subst c
      rw [ek]
      rcases hi with hi | hi | hi | hi | hi | hi | ⟨_, _, p, q, hi⟩ <;> omega
    · rw [e 0 (by omega)]; omega
  · rw [e 613 (by omega)]; omega
  · exact LawA_l (vu_l (by omega)) h14
  · rw [e _ (by omega), e _ (by omega), e _ (by omega), e _ (by omega)]
    exact h15 law hl
theorem putL_at {g : Nat} {cs : List Int} {j : Nat} (h : ¬ (j = 4 + g ∨ j = 6 + g ∨ j = 8 + g ∨ j = 613)) (h2 : j < 614 + (D 613).toNat) : putL D g cs j = D j := by
  unfold putL
  rw [if_neg (by omega), if_neg (by omega), if_neg (by omega), if_neg (by omega), if_neg (by omega)]
theorem lawR_put {g : Nat} {cs : List Int} (hg : g < 2) (hc : 0 ≤ D 613) : lawR (putL D g cs) g = cs := by
  have a4 : putL D g cs (4 + g) = 1 := by unfold putL; rw [if_pos rfl]
  have a6 : putL D g cs (6 + g) = D 613 := by unfold putL; rw [if_neg (by omega), if_pos rfl]
  have a8 : putL D g cs (8 + g) = cs.length := by unfold putL; rw [if_neg (by omega), if_neg (by omega), if_pos rfl]
  unfold lawR
  rw [a4, a6, a8, if_neg (by decide)]
  refine List.ext_getElem (by simp) (fun i h1 h2 => ?_)
  simp only [List.getElem_map, List.getElem_range]
  unfold putL
  rw [if_neg (by omega), if_neg (by omega), if_neg (by omega), if_neg (by omega), if_pos (by omega), show 614 + (D 613).toNat + i - 614 - (D 613).toNat = i by omega, List.getD_eq_getElem?_getD, List.getElem?_eq_getElem h2]
  rfl
theorem lawR_put2 {g law : Nat} {cs : List Int} (hg : g < 2) (hl : law < 2) (hne : ¬ law = g) (hc : 0 ≤ D 613) (ht : D (4 + law) = 0 ∨ (0 ≤ D (6 + law) ∧ D (6 + law) + D (8 + law) ≤ D 613)) : lawR (putL D g cs) law = lawR D law := by
  have a4 : putL D g cs (4 + law) = D (4 + law) := putL_at (by omega) (by omega)
  have a6 : putL D g cs (6 + law) = D (6 + law) := putL_at (by omega) (by omega)
  have a8 : putL D g cs (8 + law) = D (8 + law) := putL_at (by omega) (by omega)
  unfold lawR
  rw [a4, a6, a8]
  split
  · rfl
  · rename_i c
    refine List.map_congr_left (fun i hi => ?_)
    have := List.mem_range.mp hi
    exact putL_at (by omega) (by omega)
theorem DOk_put {s' : Int} {g : Nat} {cs : List Int} (h : DOk D s) (hs : s ≤ s') (hs9 : s' ≤ 900) (hg : g < 2) (hc : D 613 + cs.length ≤ s') (hn : 1 ≤ cs.length) (hw : LwOk g cs) : DOk (putL D g cs) s' := by
  obtain ⟨h1, h2, h3, h4, h5, h6, h7, h8, h9, h10, h11, h12, h13, h14, h15⟩ := h
  have e : ∀ j : Nat, ¬ (4 ≤ j ∧ j < 10) → j < 613 → putL D g cs j = D j := fun j a b => putL_at (by omega) (by omega)
  have e1 := e 1 (by omega) (by omega)
  have e2 := e 2 (by omega) (by omega)
  have a4 : putL D g cs (4 + g) = 1 := by unfold putL; rw [if_pos rfl]
  have a6 : putL D g cs (6 + g) = D 613 := by unfold putL; rw [if_neg (by omega), if_pos rfl]
  have a8 : putL D g cs (8 + g) = cs.length := by unfold putL; rw [if_neg (by omega), if_neg (by omega), if_pos rfl]
  have a613 : putL D g cs 613 = D 613 + cs.length := by unfold putL; rw [if_neg (by omega), if_neg (by omega), if_neg (by omega), if_pos rfl]
  refine ⟨by rw [e1]; exact h1, by rw [e2]; exact h2, by rw [e 3 (by omega) (by omega)]; exact h3, fun k hk => (by rw [e _ (by omega) (by omega)]; exact h4 k hk), by rw [e 18 (by omega) (by omega)]; exact h5, fun j a b => (by rw [e _ (by omega) (by omega)]; exact h6 j a b), fun p hp => (by rw [e _ (by omega) (by omega), e1, e2]; exact h7 p hp), fun k hk => (by rw [e _ (by omega) (by omega)]; exact h8 k hk), fun p hp => (by rw [e _ (by omega) (by omega)]; exact h9 p hp), fun p q hp hq hh => (by rw [e _ (by omega) (by omega)]; rw [e2] at hh; exact h10 p q hp hq hh), fun j a b => (by rw [e _ (by omega) b]; exact h11 j a b), by rw [e 0 (by omega) (by omega)]; omega, by rw [a613]; omega, fun law hl => ?_, fun law hl => ?_⟩
  · by_cases c : law = g
    · subst c
      rw [a4, a6, a8, lawR_put hl h13.1]
      exact ⟨Or.inr rfl, fun _ => ⟨h13.1, by omega, by omega⟩, hw⟩
    · obtain ⟨g1, g2, g3⟩ := h14 law hl
      rw [lawR_put2 hg hl c h13.1 (by
        rcases g1 with x | x
        · exact Or.inl x
        · exact Or.inr ⟨(g2 x).1, h15 law hl x⟩)]
      have b4 : putL D g cs (4 + law) = D (4 + law) := putL_at (by omega) (by omega)
      have b6 : putL D g cs (6 + law) = D (6 + law) := putL_at (by omega) (by omega)
      have b8 : putL D g cs (8 + law) = D (8 + law) := putL_at (by omega) (by omega)
      rw [b4, b6, b8]
      exact ⟨g1, g2, g3⟩
  · by_cases c : law = g
    · subst c
      rw [a4, a6, a8, a613]
      intro _
      omega
    · have b4 : putL D g cs (4 + law) = D (4 + law) := putL_at (by omega) (by omega)
      have b6 : putL D g cs (6 + law) = D (6 + law) := putL_at (by omega) (by omega)
      have b8 : putL D g cs (8 + law) = D (8 + law) := putL_at (by omega) (by omega)
      rw [b4, b6, b8, a613]
      intro x
      have := h15 law hl x
      omega
/-- what the grammar gives is a law -/
theorem gra_law {g : Nat} {s' : Int} {cs : List Int} (hg : g < 2) (hs : 0 ≤ s ∧ s ≤ L) (h : gra T L g 20000 (if g = 0 then 4 else 9) 6 s [] = .inl (s', cs)) : s < s' ∧ s' ≤ L ∧ (cs.length : Int) + s ≤ s' ∧ 1 ≤ cs.length ∧ LwOk g cs := by
  have hr : (if g = 0 then 4 else 9) = 4 ∨ (if g = 0 then 4 else 9) = 9 := by split <;> simp
  obtain ⟨a1, a2, a3, a4, a5, ds, hds, a6, a7⟩ := gra_ok 20000 (if g = 0 then 4 else 9) 6 s [] s' cs (by omega) hs h
  have hl : glp (if g = 0 then 4 else 9) = false := by rcases hr with x | x <;> rw [x] <;> rfl
  have a3 := a3 hl
  have a5 := a5 hl
  have hds : cs = ds := by rw [hds]; rfl
  subst hds
  simp only [List.length_nil] at a4 a5
  refine ⟨a3, a2, by omega, by omega, Or.inr ⟨?_, fun c hc => ?_⟩⟩
  · have a7 := a7 [] (by rcases hr with x | x <;> rw [x] <;> decide)
    rw [hl] at a7
    have a7 : trun cs [] = some [gty (if g = 0 then 4 else 9)] := a7
    rw [a7]
    have : g = 0 ∨ g = 1 := by omega
    rcases this with rfl | rfl <;> rfl
  · intro x y
    have := a6 c hc x y
    refine ⟨fun z => this.1 (by omega), fun z => this.2 (by omega)⟩
theorem vu_cm {i j : Nat} {a b : Int} (h : ¬ i = j) : vu (vu D i a) j b = vu (vu D j b) i a := by
  funext k
  unfold vu
  (repeat' split) <;> first | rfl | omega
theorem plL_ok {q : Int × BV} : ∀ (n : Nat) (s p : Int), 0 ≤ s ∧ s ≤ L → (0 ≤ p ∧ p ≤ D 1 + 1) → plL T L D n s p = .inl q → s ≤ q.1 ∧ q.1 ≤ L ∧ ∃ v, (0 ≤ v ∧ v ≤ D 1 + 1) ∧ q.2 = vu (vu D 2 (D 2 + 1)) (30 + D 2).toNat v := by
  intro n
  induction n with
  | zero => intro s p _ _ h; cases h
  | succ n ih =>
    intro s p hs hp h
    have h : (if lxK T L s = 5 then tN T L 0 (D 1 + 1) (nxs T L s) (fun v s2 => plL T L D n s2 v) else .inl (s, vu (vu D 2 (D 2 + 1)) (30 + D 2).toNat p)) = .inl q := h
    split at h
    · obtain ⟨h1, h2, h3⟩ := tN_inv h
      have a := nxs_b (T := T) hs
      have b := nxs_b (T := T) (s := nxs T L s) ⟨by omega, a.2.1⟩
      have := ih _ _ ⟨by omega, b.2.1⟩ h2 h3
      exact ⟨by omega, this.2.1, this.2.2⟩
    · rw [← Sum.inl.inj h]
      exact ⟨Int.le_refl _, hs.2, p, hp, rfl⟩
theorem L_one_ok {q : Int × BV} (hL : L ≤ 900) (hs : 0 ≤ s ∧ s ≤ L) (hD : DOk D s) (h : L_one T L s D = .inl q) : s < q.1 ∧ q.1 ≤ L ∧ DOk q.2 q.1 ∧ q.2 0 = D 0 := by
  have hN := hD.N
  have hP := hD.P
  have K25 := lxK_25 (T := T) (L := L) (s := s)
  have nx := nxs_b (T := T) hs
  unfold L_one at h
  have np := fun (s1 : Int) (h1 : 0 ≤ s1 ∧ s1 ≤ L) => nxs_b (T := T) h1
  split at h
  · unfold L_plank at h
    obtain ⟨a1, a2, h⟩ := tN_inv h
    have n1 := np (nxs T L s) ⟨by omega, nx.2.1⟩
    obtain ⟨a3, h⟩ := tK_inv h
    have n2 := np _ ⟨by omega, n1.2.1⟩
    obtain ⟨a4, a5, h⟩ := tN_inv h
    have n3 := np _ ⟨by omega, n2.2.1⟩
    rw [← Sum.inl.inj h]
    refine ⟨by show s < _; omega, n3.2.1, DOk_vu hD (by show s ≤ _; omega) (Or.inr (Or.inr (Or.inr (Or.inl ⟨by omega, by omega, a5.1, a5.2⟩)))), vu_ne (by omega)⟩
  · split at h
    · unfold L_person at h
      split at h
      · cases h
      · obtain ⟨b1, b2, v, b3, b4⟩ := plL_ok 1000 (nxs T L s) 0 ⟨by omega, nx.2.1⟩ ⟨by omega, by omega⟩ h
        refine ⟨by omega, b2, ?_, ?_⟩
        · rw [b4]
          have x : DOk (vu D 2 (D 2 + 1)) q.1 := DOk_vu hD (by omega) (Or.inr (Or.inl ⟨rfl, rfl, by omega⟩))
          refine DOk_vu x (Int.le_refl _) (Or.inr (Or.inr (Or.inr (Or.inr (Or.inr (Or.inl ⟨by omega, by omega, b3.1, ?_, ?_⟩))))))
          · rw [vu_ne (by decide)]; exact b3.2
          · rw [vu_eq]; omega
        · rw [b4, vu_ne (by omega), vu_ne (by omega)]
    · split at h
      · unfold L_paper at h
        obtain ⟨a1, a2, h⟩ := tN_inv h
        have n1 := np (nxs T L s) ⟨by omega, nx.2.1⟩
        obtain ⟨a3, h⟩ := tK_inv h
        have n2 := np _ ⟨by omega, n1.2.1⟩
        split at h
        · cases h
        · rename_i cne
          obtain ⟨a4, a5, h⟩ := tN_inv h
          have n3 := np _ ⟨by omega, n2.2.1⟩
          obtain ⟨a6, h⟩ := tK_inv h
          have n4 := np _ ⟨by omega, n3.2.1⟩
          obtain ⟨a7, a8, h⟩ := tN_inv h
          have n5 := np _ ⟨by omega, n4.2.1⟩
          rw [← Sum.inl.inj h]
          generalize hp : tnm T L (nxs T L s) = p at *
          generalize hq : tnm T L (nxs T L (nxs T L (nxs T L s))) = q' at *
          have ne : ¬ q' = p := fun x => cne ⟨a4, x⟩
          refine ⟨by show s < _; omega, n5.2.1, DOk_vu hD (by show s ≤ _; omega) (Or.inr (Or.inr (Or.inr (Or.inr (Or.inr (Or.inr ⟨by omega, a8.2, p.toNat, q'.toNat, by omega, by omega, by omega, by omega⟩)))))), vu_ne (by omega)⟩
      · have lw : ∀ g : Nat, g < 2 → L_law T L s g D = .inl q → s < q.1 ∧ q.1 ≤ L ∧ DOk q.2 q.1 ∧ q.2 0 = D 0 := fun g hg h => by
          unfold L_law at h
          obtain ⟨a1, h⟩ := tK_inv h
          have n1 := np (nxs T L s) ⟨by omega, nx.2.1⟩
          cases hgr : gra T L g 20000 (if g = 0 then 4 else 9) 6 (nxs T L (nxs T L s)) [] with
          | inr e => rw [hgr] at h; cases h
          | inl w =>
            rw [hgr] at h
            obtain ⟨s', cs⟩ := w
            have h : (Sum.inl (s', putL D g cs) : Lres) = .inl q := h
            obtain ⟨g1, g2, g3, g4, g5⟩ := gra_law hg ⟨by omega, n1.2.1⟩ hgr
            have hc := hD.cnt
            rw [← Sum.inl.inj h]
            exact ⟨by show s < s'; omega, g2, DOk_put hD (by show s ≤ s'; omega) (by show s' ≤ 900; omega) hg (by show _ ≤ s'; omega) g4 g5, putL_at (by omega) (by omega)⟩
        split at h
        · exact lw 0 (by decide) h
        · split at h
          · exact lw 1 (by decide) h
          · split at h
            · obtain ⟨a1, a2, h⟩ := tN_inv h
              have n1 := np (nxs T L s) ⟨by omega, nx.2.1⟩
              rw [← Sum.inl.inj h]
              exact ⟨by show s < _; omega, n1.2.1, DOk_vu hD (by show s ≤ _; omega) (Or.inr (Or.inr (Or.inl ⟨rfl, a2.1, a2.2⟩))), vu_ne (a := D) (j := 0) (k := 3) (v := tnm T L (nxs T L s)) (by decide)⟩
            · split at h
              · obtain ⟨a1, a2, h⟩ := tN_inv h
                have n1 := np (nxs T L s) ⟨by omega, nx.2.1⟩
                rw [← Sum.inl.inj h]
                exact ⟨by show s < _; omega, n1.2.1, DOk_vu hD (by show s ≤ _; omega) (Or.inr (Or.inr (Or.inr (Or.inr (Or.inl ⟨rfl, a2.1, a2.2⟩))))), vu_ne (a := D) (j := 0) (k := 18) (v := tnm T L (nxs T L s)) (by decide)⟩
              · cases h
theorem L_end_ok {q : Int × BV} {x : Lres} (h : L_end T L x = .inl q) : ∃ s1 D1, x = .inl (s1, D1) ∧ lxK T L s1 = 30 ∧ q = (nxs T L s1, vu D1 0 (D1 0 + 1)) := by
  rcases x with ⟨s1, D1⟩ | e
  · have h : tK T L 30 s1 (fun s2 => .inl (s2, vu D1 0 (D1 0 + 1))) = .inl q := h
    obtain ⟨a, b⟩ := tK_inv h
    exact ⟨s1, D1, rfl, a, (Sum.inl.inj b).symm⟩
  · cases h
theorem L_line_ok {q : Int × BV} (hL : L ≤ 900) (hs : 0 ≤ s ∧ s ≤ L) (hD : DOk D s) (h : L_end T L (L_one T L s D) = .inl q) : s < q.1 ∧ q.1 ≤ L ∧ DOk q.2 q.1 := by
  obtain ⟨s1, D1, h1, h2, rfl⟩ := L_end_ok h
  obtain ⟨b1, b2, b3, b4⟩ := L_one_ok hL hs hD h1
  have K25 := lxK_25 (T := T) (L := L) (s := s1)
  have nx := nxs_b (T := T) (s := s1) (L := L) ⟨by omega, b2⟩
  have hl := b3.lin
  simp only at b1 b2 b3 b4 hl ⊢
  exact ⟨by omega, nx.2.1, DOk_vu b3 (by omega) (Or.inl ⟨rfl, by omega, by omega⟩)⟩
theorem D_0_ok {N b : Int} (hN : 1 ≤ N ∧ N ≤ 8) (hb : 0 ≤ b ∧ b ≤ 999) (hs : 0 ≤ s) : DOk (D_0 N b) s := by
  have e : ∀ j : Nat, ¬ j = 1 → ¬ (10 ≤ j ∧ j < 18) → D_0 N b j = 0 := fun j a c => by unfold D_0; rw [if_neg a, if_neg c]
  have e1 : D_0 N b 1 = N := by unfold D_0; rw [if_pos rfl]
  have e2 := e 2 (by decide) (by omega)
  refine ⟨by rw [e1]; exact hN, by rw [e2]; decide, by rw [e 3 (by omega) (by omega)]; decide, fun k hk => ?_, by rw [e 18 (by omega) (by omega)]; decide, fun j a c => e j (by omega) (by omega), fun p hp => ?_, fun k hk => (by rw [e _ (by omega) (by omega)]; decide), fun p hp => e _ (by omega) (by omega), fun p q hp hq hh => e _ (by omega) (by omega), fun j a c => e j (by omega) (by omega), by rw [e 0 (by omega) (by omega)]; omega, by rw [e 613 (by omega) (by omega)]; omega, fun law hl => ?_, fun law hl x => ?_⟩
  · unfold D_0
    rw [if_neg (by omega), if_pos (by omega)]
    exact hb
  · rw [e _ (by omega) (by omega), e1]
    omega
  · have e4 := e (4 + law) (by omega) (by omega)
    rw [e4]
    refine ⟨Or.inl rfl, fun x => absurd x (by decide), Or.inl ?_⟩
    unfold lawR
    rw [if_pos e4]
  · rw [e (4 + law) (by omega) (by omega)] at x
    exact absurd x (by decide)
theorem L_first_ok {q : Int × BV} (hL : 0 ≤ L) (h : L_end T L (L_first T L) = .inl q) : 0 < q.1 ∧ q.1 ≤ L ∧ DOk q.2 q.1 := by
  obtain ⟨s1, D1, h1, h2, rfl⟩ := L_end_ok h
  unfold L_first at h1
  have sb := lxS_b (T := T) (L := L) (p := 0) ⟨by omega, hL⟩
  obtain ⟨a1, h1⟩ := tK_inv h1
  have n1 := nxs_b (T := T) (s := lxS T L 0) (L := L) ⟨by omega, sb.2⟩
  obtain ⟨a2, a3, h1⟩ := tN_inv h1
  have n2 := nxs_b (T := T) (s := nxs T L (lxS T L 0)) (L := L) ⟨by omega, n1.2.1⟩
  obtain ⟨a4, h1⟩ := tK_inv h1
  have n3 := nxs_b (T := T) (s := nxs T L (nxs T L (lxS T L 0))) (L := L) ⟨by omega, n2.2.1⟩
  obtain ⟨a5, a6, h1⟩ := tN_inv h1
  have n4 := nxs_b (T := T) (s := nxs T L (nxs T L (nxs T L (lxS T L 0)))) (L := L) ⟨by omega, n3.2.1⟩
  obtain ⟨rfl, rfl⟩ := Prod.mk.inj (Sum.inl.inj h1)
  have K25 := lxK_25 (T := T) (L := L) (s := lxS T L 0)
  have n5 := nxs_b (T := T) (s := nxs T L (nxs T L (nxs T L (nxs T L (lxS T L 0))))) (L := L) ⟨by omega, n4.2.1⟩
  have e0 : D_0 (tnm T L (nxs T L (lxS T L 0))) (tnm T L (nxs T L (nxs T L (nxs T L (lxS T L 0))))) 0 = 0 := rfl
  exact ⟨by show 0 < _; omega, n5.2.1, DOk_vu (D_0_ok a3 a6 (Int.le_refl 0)) (by show 0 ≤ _; omega) (Or.inl ⟨rfl, by omega, by show _ ≤ nxs T L _; omega⟩)⟩
end LINES
