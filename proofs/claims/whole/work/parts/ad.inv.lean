/-! ad: what ties class and reference between calls -/
section INV
variable {M M' : Int} {σ σ1 σ2 : Mem} {a b a1 a2 : BV} {lw ll : List Int} {K : Option AV → Mem → Prop}
/-- plans that stand stay -/
def pls (σ σ2 : Mem) : Prop := npl σ ≤ npl σ2 ∧ ∀ n : Nat, n < npl σ → σ2 3 n = σ 3 n ∧ σ2 21 n = σ 21 n ∧ σ2 24 n = σ 24 n ∧ σ2 25 n = σ 25 n ∧ σ2 61 24 n = σ 61 24 n ∧ σ2 61 25 n = σ 61 25 n
theorem pls.rf : pls σ σ := ⟨Nat.le_refl _, fun _ _ => ⟨rfl, rfl, rfl, rfl, rfl, rfl⟩⟩
theorem pls_x {L : List Nat} (h : eqx L σ σ2) (hL : 3 ∉ L ∧ 21 ∉ L ∧ 24 ∉ L ∧ 25 ∉ L ∧ 60 ∉ L ∧ 61 ∉ L) : pls σ σ2 := by
  obtain ⟨l1, l2, l3, l4, l5, l6⟩ := hL
  unfold pls npl
  rw [h 3 l1, h 21 l2, h 24 l3, h 25 l4, h 60 l5, h 61 l6]
  exact ⟨Nat.le_refl _, fun _ _ => ⟨rfl, rfl, rfl, rfl, rfl, rfl⟩⟩
theorem pls.tr (h : pls σ σ1) (h2 : pls σ1 σ2) : pls σ σ2 := ⟨Nat.le_trans h.1 h2.1, fun n hn => by
  obtain ⟨g1, g2, g3, g4, g5, g6⟩ := h.2 n hn
  obtain ⟨k1, k2, k3, k4, k5, k6⟩ := h2.2 n (Nat.lt_of_lt_of_le hn h.1)
  exact ⟨k1.trans g1, k2.trans g2, k3.trans g3, k4.trans g4, k5.trans g5, k6.trans g6⟩⟩
/-- a world of the class stays -/
def wst (w : Nat) (σ σ2 : Mem) : Prop := σ2 7 w = σ 7 w ∧ σ2 10 w = σ 10 w ∧ σ2 33 w = σ 33 w ∧ σ2 34 w = σ 34 w ∧ σ2 35 w = σ 35 w
theorem wst_x {w : Nat} {L : List Nat} (h : eqx L σ σ2) (hL : 7 ∉ L ∧ 10 ∉ L ∧ 33 ∉ L ∧ 34 ∉ L ∧ 35 ∉ L) : wst w σ σ2 := by
  obtain ⟨l1, l2, l3, l4, l5⟩ := hL
  unfold wst
  rw [h 7 l1, h 10 l2, h 33 l3, h 34 l4, h 35 l5]
  exact ⟨rfl, rfl, rfl, rfl, rfl⟩
theorem wst.tr {w : Nat} (h : wst w σ σ1) (h2 : wst w σ1 σ2) : wst w σ σ2 := ⟨h2.1.trans h.1, h2.2.1.trans h.2.1, h2.2.2.1.trans h.2.2.1, h2.2.2.2.1.trans h.2.2.2.1, h2.2.2.2.2.trans h.2.2.2.2⟩
theorem pln_s {w : Nat} (h : wst w σ σ2) : pln σ2 w = pln σ w := by unfold pln; rw [h.2.1]
theorem V_s {w : Nat} (h : wst w σ σ2) (hp : pls σ σ2) (hl : pln σ w < npl σ) : V σ2 w b = V σ w b := by
  obtain ⟨p1, p2, _⟩ := hp.2 _ hl
  funext j
  unfold V
  rw [pln_s h, p1, p2, h.1, h.2.2.1, h.2.2.2.1, h.2.2.2.2]
theorem WI_s {w : Nat} (h : wst w σ σ2) (hp : pls σ σ2) (hi : WI σ w b lw ll) : WI σ2 w b lw ll := by
  obtain ⟨h1, h2, h3, h4, h5, h6, h7⟩ := hi
  obtain ⟨p1, p2, p3, p4, p5, p6⟩ := hp.2 _ h2
  refine ⟨h1, ?_, ?_, ?_, ?_, h6, h7⟩
  · rw [pln_s h]; exact Nat.lt_of_lt_of_le h2 hp.1
  · rw [V_s h hp h2]; exact h3
  · unfold lawC at h4 ⊢
    rw [pln_s h, p3, p5]; exact h4
  · unfold lawC at h5 ⊢
    rw [pln_s h, p4, p6]; exact h5
/-- laws by the places where they are told -/
theorem LawA_pl (hl : LawA a) (h : ∀ j : Nat, (4 ≤ j ∧ j < 10) ∨ (614 ≤ j ∧ j < 1514) → a1 j = a j) : LawA a1 ∧ ∀ law : Nat, law < 2 → lawR a1 law = lawR a law := by
  have e : ∀ law : Nat, law < 2 → lawR a1 law = lawR a law := fun law h2 => by
    obtain ⟨g1, g2, g3⟩ := hl law h2
    unfold lawR
    rw [h (4 + law) (by omega), h (8 + law) (by omega), h (6 + law) (by omega)]
    by_cases c : a (4 + law) = 0
    · rw [if_pos c, if_pos c]
    · have c1 : a (4 + law) = 1 := by omega
      have := g2 c1
      rw [if_neg c, if_neg c]
      refine List.map_congr_left (fun i hi => ?_)
      have := List.mem_range.mp hi
      exact h _ (by omega)
  refine ⟨fun law h2 => ?_, e⟩
  rw [e law h2, h (4 + law) (by omega), h (8 + law) (by omega), h (6 + law) (by omega)]
  exact hl law h2
/-- sound numbers: the bridge's, and those of rows that can be brought back -/
def RA (M : Int) (a : BV) : Prop := OkA a ∧ LawA a ∧ a 18 ≤ M ∧ ∀ k : Nat, (k : Int) < a 72 → OkA (bck a k) ∧ a (73 + 54 * k) ≤ M
def LV (M : Int) (σ : Mem) : Prop := V σ 0 (σ 44 0) = σ 44 0 ∧ WI σ 0 (σ 44 0) (lawR (σ 44 0) 0) (lawR (σ 44 0) 1) ∧ PI σ (σ 44 0) ∧ RA M (σ 44 0)
def IMG (M : Int) (σ : Mem) : Prop := ∀ i : Nat, i < 2 → σ 43 0 i = σ 45 0 i ∧ (σ 45 0 i = 0 ∨ σ 45 0 i = 1) ∧ (σ 10 (2 + i) 3).toNat < npl σ ∧ (σ 45 0 i = 1 → ∃ b2 : BV, (∀ j : Nat, j < 1514 → b2 j = σ 44 0 (1514 * (i + 1) + j)) ∧ V σ (2 + i) b2 = b2 ∧ WI σ (2 + i) b2 (lawR b2 0) (lawR b2 1) ∧ LawA b2 ∧ b2 18 ≤ M)
def TRS (σ : Mem) : Prop := ∀ i : Nat, i < 4 → (σ 8 i 1 = 0 ∨ σ 8 i 1 = 1) ∧ (0 ≤ σ 8 i 2 ∧ σ 8 i 2 ≤ 3) ∧ (0 ≤ σ 8 i 3 ∧ σ 8 i 3 ≤ 40) ∧ (σ 8 i 1 = 1 ↔ σ 56 0 i = -1) ∧ (-1 ≤ σ 56 0 i ∧ σ 56 0 i ≤ 3) ∧ σ 57 0 i = σ 8 i 3 ∧ (σ 8 i 1 = 0 → σ 56 0 i = σ 8 i 2) ∧ (∀ k : Nat, k < 40 → in64 (σ 36 i k) ∧ in64 (σ 58 0 (40 * i + k))) ∧ (∀ k : Nat, (k : Int) < σ 8 i 3 → σ 36 i k = σ 58 0 (40 * i + k))
def TAP (σ : Mem) : Prop := (0 ≤ σ 12 0 5 ∧ σ 12 0 5 ≤ 900) ∧ σ 11 0 13 = σ 12 0 5 ∧ (∀ j : Nat, (j : Int) < σ 12 0 5 → σ 40 0 j = (σ 46 0 j).bmod 256 ∧ 0 ≤ σ 46 0 j ∧ σ 46 0 j < 256) ∧ σ 4 0 10 = σ 12 0 13 ∧ σ 4 0 11 = σ 12 0 14
def PPN (σ : Mem) : Prop := 0 ≤ σ 60 0 0 ∧ (σ 4 0 9).toNat < npl σ
def TI (M : Int) (σ : Mem) : Prop := LV M σ ∧ IMG M σ ∧ TRS σ ∧ TAP σ ∧ PPN σ
theorem TRS_x (h : TRS σ) (e8 : σ2 8 = σ 8) (e36 : σ2 36 = σ 36) (e56 : σ2 56 = σ 56) (e57 : σ2 57 = σ 57) (e58 : σ2 58 = σ 58) : TRS σ2 := by
  unfold TRS
  rw [e8, e36, e56, e57, e58]
  exact h
theorem TAP_x (h : TAP σ) (e5 : σ2 12 0 5 = σ 12 0 5) (e13 : σ2 12 0 13 = σ 12 0 13) (e14 : σ2 12 0 14 = σ 12 0 14) (e11 : σ2 11 = σ 11) (e40 : σ2 40 = σ 40) (e46 : σ2 46 = σ 46) (e4 : σ2 4 = σ 4) : TAP σ2 := by
  unfold TAP
  rw [e5, e13, e14, e11, e40, e46, e4]
  exact h
theorem PPN_x (h : PPN σ) (e60 : σ2 60 = σ 60) (e4 : σ2 4 = σ 4) : PPN σ2 := by
  unfold PPN npl
  rw [e60, e4]
  exact h
theorem IMG_x (h : IMG M σ) (hM : M ≤ M') (e43 : σ2 43 = σ 43) (e45 : σ2 45 = σ 45) (e44 : ∀ j : Nat, 1514 ≤ j → σ2 44 0 j = σ 44 0 j) (hp : pls σ σ2) (h2 : wst 2 σ σ2) (h3 : wst 3 σ σ2) : IMG M' σ2 := by
  intro i hi
  obtain ⟨g1, g2, g3, g4⟩ := h i hi
  have hw : wst (2 + i) σ σ2 := by
    have : i = 0 ∨ i = 1 := by omega
    rcases this with rfl | rfl
    · exact h2
    · exact h3
  rw [e43, e45]
  refine ⟨g1, g2, ?_, fun c => ?_⟩
  · rw [hw.2.1]; exact Nat.lt_of_lt_of_le g3 hp.1
  · obtain ⟨b2, k1, k2, k3, k4, k5⟩ := g4 c
    exact ⟨b2, fun j hj => by rw [k1 j hj, e44 _ (by omega)], by rw [V_s hw hp g3]; exact k2, WI_s hw hp k3, k4, by omega⟩
theorem PI_ag (h : PI σ a) (he : ∀ j : Nat, 72 ≤ j → j < 613 → a1 j = a j) : PI σ a1 := by
  obtain ⟨h1, h2, h3, h4⟩ := h
  have e72 := he 72 (by decide) (by decide)
  unfold PI
  rw [e72]
  exact ⟨h1, h2, h3, fun k j hk hj => by rw [he _ (by omega) (by omega)]; exact h4 k j hk hj⟩
/-- the live world, tied again -/
theorem LV_of (hw1 : wst 0 σ1 σ2) (hp1 : pls σ1 σ2) (hV : V σ1 0 b = a1) (hW : WI σ1 0 b lw ll) (hP : PI σ2 a2) (e1 : ∀ j : Nat, j < 4 ∨ (10 ≤ j ∧ j < 72) → σ2 44 0 j = a1 j) (e2 : ∀ j : Nat, 72 ≤ j → j < 613 → σ2 44 0 j = a2 j) (hlw : lawR (σ2 44 0) 0 = lw) (hll : lawR (σ2 44 0) 1 = ll) (hl : LawA (σ2 44 0)) (hd : σ2 44 0 18 ≤ M') (hr : ∀ k : Nat, (k : Int) < σ2 44 0 72 → OkA (bck (σ2 44 0) k) ∧ σ2 44 0 (73 + 54 * k) ≤ M') : LV M' σ2 := by
  have v2 : V σ2 0 (σ2 44 0) = σ2 44 0 := by
    funext j
    by_cases c : j < 4 ∨ (10 ≤ j ∧ j < 72)
    · rw [V_ag (A := b) c, V_s hw1 hp1 hW.2.1, hV, e1 j c]
    · rw [V_ot c]
  have w2 : WI σ2 0 (σ2 44 0) lw ll := WI_s hw1 hp1 (WI_ag hW)
  have o2 := w2.2.2.1
  rw [v2] at o2
  exact ⟨v2, by rw [hlw, hll]; exact w2, PI_ag hP e2, o2, hl, hd, hr⟩
theorem pushA_hi {r : BV} {j : Nat} (h : 613 ≤ j) (h72 : 0 ≤ a 72 ∧ a 72 ≤ 10) : pushA a r j = a j := by
  unfold pushA
  rcases Classical.em (a 72 = 10) with c | c
  · rw [if_pos c, if_neg (by omega), if_neg (by omega)]
  · rw [if_neg c, if_neg (by omega), if_neg (by omega)]
theorem pushA_ag {r : BV} {j : Nat} (h : ∀ j : Nat, 72 ≤ j → a1 j = a j) (hj : 72 ≤ j) : pushA a1 r j = pushA a r j := by
  unfold pushA
  rw [h 72 (by decide)]
  rcases Classical.em (a 72 = 10) with c | c
  · rw [if_pos c, if_pos c]
    by_cases c1 : 73 ≤ j ∧ j < 559
    · rw [if_pos c1, if_pos c1]; exact h _ (by omega)
    · rw [if_neg c1, if_neg c1]
      by_cases c2 : 559 ≤ j ∧ j < 613
      · rw [if_pos c2, if_pos c2]
      · rw [if_neg c2, if_neg c2]; exact h j hj
  · rw [if_neg c, if_neg c]
    by_cases c1 : j = 72
    · rw [if_pos c1, if_pos c1]
    · rw [if_neg c1, if_neg c1]
      by_cases c2 : 73 + 54 * (a 72).toNat ≤ j ∧ j < 73 + 54 * (a 72).toNat + 54
      · rw [if_pos c2, if_pos c2]
      · rw [if_neg c2, if_neg c2]; exact h j hj
theorem bck_ok {k : Nat} {c : BV} (ho : OkA c) (h1 : ∀ j : Nat, j < 18 → a j = c j) (h2 : ∀ j : Nat, 18 ≤ j → j < 72 → a (73 + 54 * k + (j - 18)) = c j) : OkA (bck a k) := by
  refine OkA_ag (D := c) (fun j hj => ?_) ho
  unfold bck
  by_cases c1 : 18 ≤ j ∧ j < 72
  · rw [if_pos c1]; exact h2 j c1.1 c1.2
  · rw [if_neg c1]; exact h1 j (by omega)
/-- rows of the past, one more -/
theorem push_rows (h72 : 0 ≤ a 72 ∧ a 72 ≤ 10) (hr : RA M a) (hM : M ≤ M') (hh : eqH a a1) : ∀ k : Nat, (k : Int) < pushA a1 (row a) 72 → OkA (bck (pushA a1 (row a)) k) ∧ pushA a1 (row a) (73 + 54 * k) ≤ M' := by
  obtain ⟨ho, hl, hd, hrow⟩ := hr
  have e72 : a1 72 = a 72 := hh 72 (by omega)
  have lo : ∀ j : Nat, j < 18 → pushA a1 (row a) j = a j := fun j hj => by rw [pushA_lo (by omega)]; exact hh j (by omega)
  intro k hk
  rcases Classical.em (a1 72 = 10) with c | c
  · have P : ∀ j : Nat, pushA a1 (row a) j = if 73 ≤ j ∧ j < 559 then a1 (j + 54) else if 559 ≤ j ∧ j < 613 then row a (j - 559) else a1 j := fun j => by unfold pushA; rw [if_pos c]
    rw [P 72, if_neg (by omega), if_neg (by omega)] at hk
    by_cases c9 : k = 9
    · subst c9
      have e : ∀ j : Nat, j < 54 → pushA a1 (row a) (73 + 54 * 9 + j) = a (18 + j) := fun j hj => by
        rw [P, if_neg (by omega), if_pos (by omega)]
        unfold row
        rw [show 18 + (73 + 54 * 9 + j - 559) = 18 + j by omega]
      exact ⟨bck_ok ho lo (fun j h1 h2 => by rw [e (j - 18) (by omega), show 18 + (j - 18) = j by omega]), by have := e 0 (by decide); rw [Nat.add_zero] at this; rw [this]; show a 18 ≤ M'; omega⟩
    · obtain ⟨g1, g2⟩ := hrow (k + 1) (by omega)
      have e : ∀ j : Nat, j < 54 → pushA a1 (row a) (73 + 54 * k + j) = a (73 + 54 * (k + 1) + j) := fun j hj => by
        rw [P, if_pos (by omega), hh _ (by omega), show 73 + 54 * k + j + 54 = 73 + 54 * (k + 1) + j by omega]
      refine ⟨bck_ok g1 (fun j hj => ?_) (fun j h1 h2 => ?_), by have := e 0 (by decide); rw [Nat.add_zero, Nat.add_zero] at this; rw [this]; omega⟩
      · rw [lo j hj]
        unfold bck
        rw [if_neg (by omega)]
      · rw [e (j - 18) (by omega)]
        unfold bck
        rw [if_pos ⟨h1, h2⟩]
  · have P : ∀ j : Nat, pushA a1 (row a) j = if j = 72 then a1 72 + 1 else if 73 + 54 * (a1 72).toNat ≤ j ∧ j < 73 + 54 * (a1 72).toNat + 54 then row a (j - (73 + 54 * (a1 72).toNat)) else a1 j := fun j => by unfold pushA; rw [if_neg c]
    rw [P 72, if_pos rfl] at hk
    by_cases c9 : (k : Int) = a1 72
    · have e : ∀ j : Nat, j < 54 → pushA a1 (row a) (73 + 54 * k + j) = a (18 + j) := fun j hj => by
        rw [P, if_neg (by omega), if_pos (by omega)]
        unfold row
        rw [show 18 + (73 + 54 * k + j - (73 + 54 * (a1 72).toNat)) = 18 + j by omega]
      exact ⟨bck_ok ho lo (fun j h1 h2 => by rw [e (j - 18) (by omega), show 18 + (j - 18) = j by omega]), by have := e 0 (by decide); rw [Nat.add_zero] at this; rw [this]; show a 18 ≤ M'; omega⟩
    · obtain ⟨g1, g2⟩ := hrow k (by omega)
      have e : ∀ j : Nat, j < 54 → pushA a1 (row a) (73 + 54 * k + j) = a (73 + 54 * k + j) := fun j hj => by
        rw [P, if_neg (by omega), if_neg (by omega), hh _ (by omega)]
      refine ⟨bck_ok g1 (fun j hj => ?_) (fun j h1 h2 => ?_), by have := e 0 (by decide); rw [Nat.add_zero] at this; rw [this]; omega⟩
      · rw [lo j hj]
        unfold bck
        rw [if_neg (by omega)]
      · rw [e (j - 18) (by omega)]
        unfold bck
        rw [if_pos ⟨h1, h2⟩]
/-- the rest is tied still, after a call of both -/
theorem rest_of (h : TI M σ) (hM : M ≤ M') (hf : frw σ σ1) (hr : rfw σ1 σ2) (e44 : ∀ j : Nat, 1514 ≤ j → σ2 44 0 j = σ 44 0 j) : IMG M' σ2 ∧ TRS σ2 ∧ TAP σ2 ∧ PPN σ2 := by
  obtain ⟨-, h2, h3, h4, h5⟩ := h
  have x : ∀ K : Nat, K ∉ [0, 1, 2, 6, 7, 9, 10, 16, 17, 18, 19, 27, 28, 29, 30, 31, 32, 33, 34, 35, 37, 38, 39] → K ∉ [12, 44, 48, 49, 50, 51, 52, 53, 54, 55] → σ2 K = σ K := fun K a b => (hr.1 K b).trans (hf.1 K a)
  have t12 : σ1 12 = σ 12 := hf.1 12 (by decide)
  have hp : pls σ σ2 := (pls_x hf.1 (by decide)).tr (pls_x hr.1 (by decide))
  have hw : ∀ n : Nat, (n = 2 ∨ n = 3) → wst n σ σ2 := fun n hn => wst.tr (σ1 := σ1) ⟨hf.2 n 7 hn (by omega), hf.2 n 10 hn (by omega), hf.2 n 33 hn (by omega), hf.2 n 34 hn (by omega), hf.2 n 35 hn (by omega)⟩ (wst_x hr.1 (by decide))
  refine ⟨IMG_x h2 hM (x 43 (by decide) (by decide)) (x 45 (by decide) (by decide)) e44 hp (hw 2 (Or.inl rfl)) (hw 3 (Or.inr rfl)), TRS_x h3 (x 8 (by decide) (by decide)) (x 36 (by decide) (by decide)) (x 56 (by decide) (by decide)) (x 57 (by decide) (by decide)) (x 58 (by decide) (by decide)), TAP_x h4 ?_ ?_ ?_ (x 11 (by decide) (by decide)) (x 40 (by decide) (by decide)) (x 46 (by decide) (by decide)) (x 4 (by decide) (by decide)), PPN_x h5 (x 60 (by decide) (by decide)) (x 4 (by decide) (by decide))⟩
  · rw [hr.2.2.1, t12]
  · rw [hr.2.2.2.1, t12]
  · rw [hr.2.2.2.2, t12]
/-- a call that leaves the bridge as it is -/
theorem TI_keep (h : TI M σ) (hM : M ≤ M') (hf : frw σ σ1) (hr : rfw σ1 σ2) (hV : V σ1 0 (σ 44 0) = σ 44 0) (hW : WI σ1 0 (σ 44 0) (lawR (σ 44 0) 0) (lawR (σ 44 0) 1)) (hP : PI σ1 (σ 44 0)) (e44 : σ2 44 0 = σ 44 0) : TI M' σ2 := by
  obtain ⟨⟨-, -, -, r1, r2, r3, r4⟩, -⟩ := id h
  have hP2 : PI σ2 (σ 44 0) := PI_i (hr.1.i (L2 := [12, 44, 48, 49, 50, 51, 52, 53, 54, 55]) (M := []) (w := 0) (fun _ x => x)) (by decide) (by decide) (Or.inl (by decide)) hP
  refine ⟨LV_of (wst_x hr.1 (by decide)) (pls_x hr.1 (by decide)) hV hW hP2 (fun j _ => by rw [e44]) (fun j _ _ => by rw [e44]) (by rw [e44]) (by rw [e44]) (by rw [e44]; exact r2) (by rw [e44]; omega) (fun k hk => ?_), rest_of h hM hf hr (fun j _ => by rw [e44])⟩
  rw [e44] at hk ⊢
  obtain ⟨g1, g2⟩ := r4 k hk
  exact ⟨g1, by omega⟩
theorem rfm.w2 (h : rfm σ σ1) : rfw σ σ1 := ⟨h.1.wd (by decide), h.2⟩
/-- a question -/
def cqL : List Nat := [1, 6, 9, 16, 17, 18, 19, 27, 28, 29, 30, 31, 32, 37, 38, 39]
theorem TI_ask (h : TI M σ) (hM : M ≤ M') (hf : eqi cqL [7, 10, 33, 34, 35] 1 σ σ1) (hr : rfw σ1 σ2) (e44 : σ2 44 0 = σ1 44 0) : TI M' σ2 := by
  have e : σ1 44 = σ 44 := hf.k (by decide) (by decide)
  rw [e] at e44
  obtain ⟨⟨v1, v2, v3, -⟩, -⟩ := id h
  refine TI_keep h hM ⟨fun K hK => ?_, fun n K hn hK => ?_⟩ hr ?_ ?_ ?_ e44
  · exact hf.k (fun x => hK ((by decide : ∀ K ∈ cqL, K ∈ ([0, 1, 2, 6, 7, 9, 10, 16, 17, 18, 19, 27, 28, 29, 30, 31, 32, 33, 34, 35, 37, 38, 39] : List Nat)) K x)) (fun x => hK ((by decide : ∀ K ∈ ([7, 10, 33, 34, 35] : List Nat), K ∈ ([0, 1, 2, 6, 7, 9, 10, 16, 17, 18, 19, 27, 28, 29, 30, 31, 32, 33, 34, 35, 37, 38, 39] : List Nat)) K x))
  · exact hf K n (fun x => by revert x; rcases hK with rfl | rfl | rfl | rfl | rfl <;> decide) (fun x => by omega)
  · rw [V_i hf (by decide) (by decide) (by decide)]; exact v1
  · exact WI_g hf (by decide) (by decide) (by decide) (by decide) v2
  · exact PI_i hf (by decide) (by decide) (Or.inl (by decide)) v3
/-- a deed done -/
theorem TI_deed (h : TI M σ) (hM : M ≤ M') (hf : frm σ σ1) (hr : rfw σ1 σ2) (hV : V σ1 0 (σ 44 0) = a1) (hW : WI σ1 0 (σ 44 0) (lawR (σ 44 0) 0) (lawR (σ 44 0) 1)) (hP : PI σ1 (pushA (σ 44 0) (row (σ 44 0)))) (e44 : σ2 44 0 = pushA a1 (row (σ 44 0))) (hd : a1 18 ≤ M') : TI M' σ2 := by
  obtain ⟨⟨v1, v2, v3, r1⟩, -⟩ := id h
  generalize ha : σ 44 0 = a at *
  have h72 := v3.2.2.1
  have hh : eqH a a1 := fun j hj => by
    have hp : pln σ1 0 = pln σ 0 := by unfold pln; rw [hf.1 10 (by decide)]
    have e : V σ1 0 a j = V σ 0 a j := by
      unfold V
      rw [hp, hf.1 3 (by decide), hf.1 21 (by decide)]
      by_cases c : j < 18
      · simp only [if_pos c]
      · simp only [if_neg c, if_neg (show ¬ j = 18 by omega), if_neg (show ¬ j = 19 by omega), if_neg (show ¬ j = 20 by omega), if_neg (show ¬ j = 21 by omega), if_neg (show ¬ j < 30 by omega), if_neg (show ¬ j < 36 by omega), if_neg (show ¬ j < 72 by omega)]
    rw [← hV, e, v1]
  have h72b : 0 ≤ a1 72 ∧ a1 72 ≤ 10 := by rw [hh 72 (by omega)]; exact h72
  have hP2 : PI σ2 (pushA a (row a)) := PI_i (hr.1.i (L2 := [12, 44, 48, 49, 50, 51, 52, 53, 54, 55]) (M := []) (w := 0) (fun _ x => x)) (by decide) (by decide) (Or.inl (by decide)) hP
  obtain ⟨l1, l2⟩ := LawA_pl (a1 := σ2 44 0) r1.2.1 (fun j hj => by
    rw [e44]
    rcases hj with hj | hj
    · rw [pushA_lo (by omega)]; exact hh j (by omega)
    · rw [pushA_hi (by omega) h72b]; exact hh j (by omega))
  refine ⟨LV_of (wst_x hr.1 (by decide)) (pls_x hr.1 (by decide)) hV hW hP2 (fun j hj => by rw [e44, pushA_lo (by omega)]) (fun j hj _ => by rw [e44]; exact pushA_ag (fun i hi => hh i (by omega)) hj) (l2 0 (by decide)) (l2 1 (by decide)) l1 (by rw [e44, pushA_lo (by decide)]; exact hd) (fun k hk => ?_), rest_of h hM hf.w hr (fun j hj => ?_)⟩
  · rw [e44] at hk ⊢
    exact push_rows h72 r1 hM hh k hk
  · rw [e44, pushA_hi (by omega) h72b, ha]
    exact hh j (by omega)
theorem TI_no (h : TI M σ) (hM : M ≤ M') (hf : frm σ σ1) (hr : rfw σ1 σ2) (hV : V σ1 0 (σ 44 0) = σ 44 0) (hW : WI σ1 0 (σ 44 0) (lawR (σ 44 0) 0) (lawR (σ 44 0) 1)) (hP : PI σ1 (σ 44 0)) (e44 : σ2 44 0 = σ 44 0) : TI M' σ2 := TI_keep h hM hf.w hr hV hW hP e44
end INV
