/-! ae: questions, asked of class and reference (written by wip/whole/asks.py) -/
/-- both are called, one after the other, and answer alike -/
def Bth (d jc jr : Nat) (av bv : List AV) (σ : Mem) (G : Mem → Prop) : Prop := Ev d jc av σ (fun r σ1 => Ev d jr bv σ1 (fun r' σ2 => ∃ v : Int, r = some (.inl v) ∧ r' = some (.inl v) ∧ G σ2))
def BthL (d jc jr : Nat) (av bv : List AV) (σ : Mem) (G : Mem → Prop) : Prop := Ev d jc av σ (fun r σ1 => Ev d jr bv σ1 (fun r' σ2 => ∃ v : Int, r = some (.inr (.inl v)) ∧ r' = some (.inr (.inl v)) ∧ G σ2))
section ASK
variable {d : Nat} {M M' : Int} {σ : Mem}
theorem b_person {p x : Int} (hp : in32 p) (hx : in32 x) (h : TI M σ) (hM : M ≤ M') : Bth (d + 120) 110 202 [bo, .inl p, .inl x] [mo, .inl p, .inl x] σ (TI M') := by
  obtain ⟨⟨v1, v2, v3, r1, r2, r3, r4⟩, -⟩ := id h
  refine c_person hp hx v2 (fun σ1 x1 => ?_)
  have e : σ1 44 = σ 44 := x1 44 (by decide)
  refine q_person hp hx (by rw [e]; exact r1) (by rw [e]; exact r2) (fun σ2 x2 e2 => ⟨_, rfl, ?_, TI_ask h hM (x1.i (by decide)) x2.w2 e2⟩)
  rw [e, v1]
theorem b_owes {p q : Int} (hp : in32 p) (hq : in32 q) (h : TI M σ) (hM : M ≤ M') : Bth (d + 120) 111 204 [bo, .inl p, .inl q] [mo, .inl p, .inl q] σ (TI M') := by
  obtain ⟨⟨v1, v2, v3, r1, r2, r3, r4⟩, -⟩ := id h
  refine c_owes hp hq v2 ?_
  have e : σ 44 = σ 44 := rfl
  refine q_owes hp hq (by rw [e]; exact r1) (fun σ2 x2 e2 => ⟨_, rfl, ?_, TI_ask h hM eqi.rf x2.w2 e2⟩)
  rw [v1]
theorem b_plank {k x : Int} (hk : in32 k) (hx : in32 x) (h : TI M σ) (hM : M ≤ M') : Bth (d + 120) 112 205 [bo, .inl k, .inl x] [mo, .inl k, .inl x] σ (TI M') := by
  obtain ⟨⟨v1, v2, v3, r1, r2, r3, r4⟩, -⟩ := id h
  refine c_plank hk hx v2 (fun σ1 x1 => ?_)
  have e : σ1 44 = σ 44 := x1 44 (by decide)
  refine q_plank hk hx (by rw [e]; exact r1) (by rw [e]; exact r2) (fun σ2 x2 e2 => ⟨_, rfl, ?_, TI_ask h hM (x1.i (by decide)) x2.w2 e2⟩)
  rw [e, v1]
theorem b_alone {p : Int} (hp : in32 p) (h : TI M σ) (hM : M ≤ M') : Bth (d + 120) 127 247 [bo, .inl p] [mo, .inl p] σ (TI M') := by
  obtain ⟨⟨v1, v2, v3, r1, r2, r3, r4⟩, -⟩ := id h
  refine c_alone hp v2 (fun σ1 x1 => ?_)
  have e : σ1 44 = σ 44 := x1 44 (by decide)
  refine q_alone hp (by rw [e]; exact r1) (by rw [e]; exact r2) (fun σ2 x2 e2 => ⟨_, rfl, ?_, TI_ask h hM (x1.i (by decide)) x2 (by rw [e2])⟩)
  rw [e, v1]
theorem b_able (h : TI M σ) (hM : M ≤ M') : Bth (d + 120) 128 250 [bo] [mo] σ (TI M') := by
  obtain ⟨⟨v1, v2, v3, r1, r2, r3, r4⟩, -⟩ := id h
  refine c_able  v2 (fun σ1 x1 => ?_)
  have e : σ1 44 = σ 44 := x1 44 (by decide)
  refine q_able  (by rw [e]; exact r1) (by rw [e]; exact r2) (fun σ2 x2 e2 => ⟨_, rfl, ?_, TI_ask h hM (x1.i (by decide)) x2 (by rw [e2])⟩)
  rw [e, v1]
theorem b_tears {p x : Int} (hp : in32 p) (hx : in32 x) (h : TI M σ) (hM : M ≤ M') : Bth (d + 120) 129 252 [bo, .inl p, .inl x] [mo, .inl p, .inl x] σ (TI M') := by
  obtain ⟨⟨v1, v2, v3, r1, r2, r3, r4⟩, -⟩ := id h
  refine c_tears hp hx v2 (fun σ1 x1 => ?_)
  have e : σ1 44 = σ 44 := x1.k (by decide) (by decide)
  refine q_tears hp hx (by rw [e]; exact r1) (by rw [e]; exact r2) (fun σ2 x2 e2 => ⟨_, rfl, ?_, TI_ask h hM (x1.wd (by decide) (by decide)) x2 e2⟩)
  rw [e, v1]
theorem b_order {s i : Int} (hs : in32 s) (hi : in32 i) (h : TI M σ) (hM : M ≤ M') : Bth (d + 120) 131 256 [bo, .inl s, .inl i] [mo, .inl s, .inl i] σ (TI M') := by
  obtain ⟨⟨v1, v2, v3, r1, r2, r3, r4⟩, -⟩ := id h
  refine c_order hs hi v2 (fun σ1 x1 => ?_)
  have e : σ1 44 = σ 44 := x1 44 (by decide)
  refine q_order hs hi (by rw [e]; exact r1) (by rw [e]; exact r2) (fun σ2 x2 e2 => ⟨_, rfl, ?_, TI_ask h hM (x1.i (by decide)) x2 e2⟩)
  rw [e, v1]
theorem b_orders {s : Int} (hs : in32 s) (h : TI M σ) (hM : M ≤ M') : Bth (d + 120) 133 260 [bo, .inl s] [mo, .inl s] σ (TI M') := by
  obtain ⟨⟨v1, v2, v3, r1, r2, r3, r4⟩, -⟩ := id h
  refine c_orders hs v2 (fun σ1 x1 => ?_)
  have e : σ1 44 = σ 44 := x1 44 (by decide)
  refine q_orders hs (by rw [e]; exact r1) (by rw [e]; exact r2) (fun σ2 x2 e2 => ⟨_, rfl, ?_, TI_ask h hM (x1.i (by decide)) x2 e2⟩)
  rw [e, v1]
theorem b_apart {p q : Int} (hp : in32 p) (hq : in32 q) (h : TI M σ) (hM : M ≤ M') : Bth (d + 120) 134 261 [bo, .inl p, .inl q] [mo, .inl p, .inl q] σ (TI M') := by
  obtain ⟨⟨v1, v2, v3, r1, r2, r3, r4⟩, -⟩ := id h
  refine c_apart hp hq v2 (fun σ1 x1 => ?_)
  have e : σ1 44 = σ 44 := x1 44 (by decide)
  refine q_apart hp hq (by rw [e]; exact r1) (by rw [e]; exact r2) (fun σ2 x2 e2 => ⟨_, rfl, ?_, TI_ask h hM (x1.i (by decide)) x2 e2⟩)
  rw [e, v1]
theorem b_net {p : Int} (hp : in32 p) (h : TI M σ) (hM : M ≤ M') : Bth (d + 120) 135 262 [bo, .inl p] [mo, .inl p] σ (TI M') := by
  obtain ⟨⟨v1, v2, v3, r1, r2, r3, r4⟩, -⟩ := id h
  refine c_net hp v2 ?_
  have e : σ 44 = σ 44 := rfl
  refine q_net hp (by rw [e]; exact r1) (fun σ2 x2 e2 => ⟨_, rfl, ?_, TI_ask h hM eqi.rf x2 (by rw [e2])⟩)
  rw [v1]
theorem b_coin (h : TI M σ) (hM : M ≤ M') : Bth (d + 120) 136 264 [bo] [mo] σ (TI M') := by
  obtain ⟨⟨v1, v2, v3, r1, r2, r3, r4⟩, -⟩ := id h
  refine c_coin  v2 ?_
  have e : σ 44 = σ 44 := rfl
  refine q_coin  (by rw [e]; exact r1) (fun σ2 x2 e2 => ⟨_, rfl, ?_, TI_ask h hM eqi.rf x2 (by rw [e2])⟩)
  rw [v1]
theorem b_settles (h : TI M σ) (hM : M ≤ M') : Bth (d + 120) 137 265 [bo] [mo] σ (TI M') := by
  obtain ⟨⟨v1, v2, v3, r1, r2, r3, r4⟩, -⟩ := id h
  refine c_settles  v2 (fun σ1 x1 => ?_)
  have e : σ1 44 = σ 44 := x1 44 (by decide)
  refine q_settles  (by rw [e]; exact r1) (fun σ2 x2 e2 => ⟨_, rfl, ?_, TI_ask h hM (x1.i (by decide)) x2 e2⟩)
  rw [e, v1]
theorem b_rings (h : TI M σ) (hM : M ≤ M') : Bth (d + 120) 138 268 [bo] [mo] σ (TI M') := by
  obtain ⟨⟨v1, v2, v3, r1, r2, r3, r4⟩, -⟩ := id h
  refine c_rings  v2 (fun σ1 x1 => ?_)
  have e : σ1 44 = σ 44 := x1 44 (by decide)
  refine q_rings  (by rw [e]; exact r1) (fun σ2 x2 e2 => ⟨_, rfl, ?_, TI_ask h hM (x1.i (by decide)) x2 e2⟩)
  rw [e, v1]
theorem b_ring {i : Int} (hi : in32 i) (h : TI M σ) (hM : M ≤ M') : Bth (d + 120) 139 272 [bo, .inl i] [mo, .inl i] σ (TI M') := by
  obtain ⟨⟨v1, v2, v3, r1, r2, r3, r4⟩, -⟩ := id h
  refine c_ring hi v2 (fun σ1 x1 => ?_)
  have e : σ1 44 = σ 44 := x1 44 (by decide)
  refine q_ring hi (by rw [e]; exact r1) (fun σ2 x2 e2 => ⟨_, rfl, ?_, TI_ask h hM (x1.i (by decide)) x2 e2⟩)
  rw [e, v1]
theorem b_heaviest (h : TI M σ) (hM : M ≤ M') : Bth (d + 120) 140 273 [bo] [mo] σ (TI M') := by
  obtain ⟨⟨v1, v2, v3, r1, r2, r3, r4⟩, -⟩ := id h
  refine c_heaviest  v2 (fun σ1 x1 => ?_)
  have e : σ1 44 = σ 44 := x1 44 (by decide)
  refine q_heaviest  (by rw [e]; exact r1) (by rw [e]; exact r2) (fun σ2 x2 e2 => ⟨_, rfl, ?_, TI_ask h hM (x1.i (by decide)) x2 (by rw [e2])⟩)
  rw [e, v1]
theorem b_forgive (h : TI M σ) (hM : M ≤ M') : Bth (d + 120) 141 274 [bo] [mo] σ (TI M') := by
  obtain ⟨⟨v1, v2, v3, r1, r2, r3, r4⟩, -⟩ := id h
  refine c_forgive  v2 (fun σ1 x1 => ?_)
  have e : σ1 44 = σ 44 := x1.k (by decide) (by decide)
  refine q_forgive  (by rw [e]; exact r1) (by rw [e]; exact r2) (fun σ2 x2 e2 => ⟨_, rfl, ?_, TI_ask h hM (x1.wd (by decide) (by decide)) x2 e2⟩)
  rw [e, v1]
theorem b_mends {p : Int} (hp : in32 p) (h : TI M σ) (hM : M ≤ M') : Bth (d + 120) 142 275 [bo, .inl p] [mo, .inl p] σ (TI M') := by
  obtain ⟨⟨v1, v2, v3, r1, r2, r3, r4⟩, -⟩ := id h
  refine c_mends hp v2 (fun σ1 x1 => ?_)
  have e : σ1 44 = σ 44 := x1 44 (by decide)
  refine q_mends hp (by rw [e]; exact r1) (by rw [e]; exact r2) (fun σ2 x2 e2 => ⟨_, rfl, ?_, TI_ask h hM (x1.i (by decide)) x2 (by rw [e2])⟩)
  rw [e, v1]
theorem b_mendsAt {p k : Int} (hp : in32 p) (hk : in32 k) (h : TI M σ) (hM : M ≤ M') : Bth (d + 120) 145 278 [bo, .inl p, .inl k] [mo, .inl p, .inl k] σ (TI M') := by
  obtain ⟨⟨v1, v2, v3, r1, r2, r3, r4⟩, -⟩ := id h
  refine c_mendsAt hp hk v2 (fun σ1 x1 => ?_)
  have e : σ1 44 = σ 44 := x1 44 (by decide)
  refine q_mendsAt hp hk (by rw [e]; exact r1) (by rw [e]; exact r2) (fun σ2 x2 e2 => ⟨_, rfl, ?_, TI_ask h hM (x1.i (by decide)) x2 (by rw [e2])⟩)
  rw [e, v1]
theorem b_mendsAll (h : TI M σ) (hM : M ≤ M') : Bth (d + 120) 146 279 [bo] [mo] σ (TI M') := by
  obtain ⟨⟨v1, v2, v3, r1, r2, r3, r4⟩, -⟩ := id h
  refine c_mendsAll  v2 (fun σ1 x1 => ?_)
  have e : σ1 44 = σ 44 := x1 44 (by decide)
  refine q_mendsAll  (by rw [e]; exact r1) (by rw [e]; exact r2) (fun σ2 x2 e2 => ⟨_, rfl, ?_, TI_ask h hM (x1.i (by decide)) x2 (by rw [e2])⟩)
  rw [e, v1]
theorem b_chance {p n x : Int} (hp : in32 p) (hn : in32 n) (hx : in32 x) (h : TI M σ) (hM : M ≤ M') (hd : M + 15 < 1000000000) : BthL (d + 120) 151 285 [bo, .inl p, .inl n, .inl x] [mo, .inl p, .inl n, .inl x] σ (TI M') := by
  obtain ⟨⟨v1, v2, v3, r1, r2, r3, r4⟩, -⟩ := id h
  refine c_chance hp hn hx v2 (by rw [v1]; omega) (fun σ1 x1 => ?_)
  have e : σ1 44 = σ 44 := x1.k (by decide) (by decide)
  refine q_chance hp hn hx (by rw [e]; exact r1) (by rw [e]; exact r2) (by rw [e]; omega) (fun σ2 x2 e2 => ⟨_, rfl, ?_, TI_ask h hM (x1.wd (by decide) (by decide)) x2 e2⟩)
  rw [e, v1]
theorem b_likely {p m : Int} (hp : in32 p) (hm : in32 m) (h : TI M σ) (hM : M ≤ M') (hd : M + 15 < 1000000000) : Bth (d + 120) 152 289 [bo, .inl p, .inl m] [mo, .inl p, .inl m] σ (TI M') := by
  obtain ⟨⟨v1, v2, v3, r1, r2, r3, r4⟩, -⟩ := id h
  refine c_likely hp hm v2 (by rw [v1]; omega) (fun σ1 x1 => ?_)
  have e : σ1 44 = σ 44 := x1.k (by decide) (by decide)
  refine q_likely hp hm (by rw [e]; exact r1) (by rw [e]; exact r2) (by rw [e]; omega) (fun σ2 x2 e2 => ⟨_, rfl, ?_, TI_ask h hM (x1.wd (by decide) (by decide)) x2 e2⟩)
  rw [e, v1]
theorem b_count {x : Int} (hx : in32 x) (h : TI M σ) (hM : M ≤ M') : Bth (d + 120) 158 296 [bo, .inl x] [mo, .inl x] σ (TI M') := by
  obtain ⟨⟨v1, v2, v3, r1, r2, r3, r4⟩, -, -, t1, -⟩ := id h
  refine c_count hx v2 ?_
  refine q_count hx r1 (fun σ2 x2 e2 => ⟨_, rfl, ?_, TI_ask h hM eqi.rf x2 (by rw [e2])⟩)
  rw [v1, v3.2.1, t1.2.1]
theorem b_fault {x : Int} (hx : in32 x) (h : TI M σ) (hM : M ≤ M') : Bth (d + 120) 109 201 [bo, .inl x] [mo, .inl x] σ (TI M') := by
  obtain ⟨-, -, -, t1, -⟩ := id h
  refine c_fault hx ?_
  refine q_fault hx (fun σ2 x2 e2 => ⟨_, rfl, ?_, TI_ask h hM eqi.rf x2 (by rw [e2])⟩)
  rw [t1.2.2.2.1, t1.2.2.2.2]
theorem b_hand {p q : Int} (hp : in32 p) (hq : in32 q) (h : TI M σ) (hM : M ≤ M') : Bth (d + 120) 116 219 [bo, .inl p, .inl q] [mo, .inl p, .inl q] σ (TI M') := by
  obtain ⟨⟨v1, v2, v3, r1, r2, r3, r4⟩, -⟩ := id h
  refine c_hand hp hq v2 v3 (fun σ1 f1 w1 g1 i1 p1 => ?_) (fun σ1 f1 w1 g1 i1 p1 => ?_)
  · have e44 := f1.1 44 (by decide)
    rw [v1] at w1 g1 p1
    refine q_hand hp hq (by rw [e44]; exact r1) (by rw [e44]; exact r2) (by rw [e44]; exact v3.2.2.1) (fun σ2 x2 w2 g2 => ⟨_, rfl, ?_, TI_deed h hM f1 x2.w2 g1 i1 p1 (by rw [g2, e44]) ?_⟩) (fun σ2 x2 w2 g2 => ?_)
    · rw [e44, g1]
    · rw [mBr_18]
      have w0 := whyH_0 w1
      unfold hndA
      rw [vu_ne (by omega), vu_ne (by omega)]; omega
    · rw [e44] at w2
      exact absurd w1 w2
  · have e44 := f1.1 44 (by decide)
    rw [v1] at w1 g1
    refine q_hand hp hq (by rw [e44]; exact r1) (by rw [e44]; exact r2) (by rw [e44]; exact v3.2.2.1) (fun σ2 x2 w2 g2 => ?_) (fun σ2 x2 w2 g2 => ⟨_, rfl, ?_, TI_no h hM f1 x2.w2 g1 i1 p1 (by rw [g2, e44])⟩)
    · rw [e44] at w2
      exact absurd w2 w1
    · rw [e44, v1]
theorem b_tear {p q : Int} (hp : in32 p) (hq : in32 q) (h : TI M σ) (hM : M ≤ M') : Bth (d + 120) 117 223 [bo, .inl p, .inl q] [mo, .inl p, .inl q] σ (TI M') := by
  obtain ⟨⟨v1, v2, v3, r1, r2, r3, r4⟩, -⟩ := id h
  refine c_tear hp hq v2 v3 (fun σ1 f1 w1 g1 i1 p1 => ?_) (fun σ1 f1 w1 g1 i1 p1 => ?_)
  · have e44 := f1.1 44 (by decide)
    rw [v1] at w1 g1 p1
    refine q_tear hp hq (by rw [e44]; exact r1) (by rw [e44]; exact r2) (by rw [e44]; exact v3.2.2.1) (fun σ2 x2 w2 g2 => ⟨_, rfl, ?_, TI_deed h hM f1 x2.w2 g1 i1 p1 (by rw [g2, e44]) ?_⟩) (fun σ2 x2 w2 g2 => ?_)
    · rw [e44, v1]
    · rw [mBr_18]
      have w0 := whyT_0 w1
      unfold torA
      rw [vu_ne (by omega)]; omega
    · rw [e44] at w2
      exact absurd w1 w2
  · have e44 := f1.1 44 (by decide)
    rw [v1] at w1 g1
    refine q_tear hp hq (by rw [e44]; exact r1) (by rw [e44]; exact r2) (by rw [e44]; exact v3.2.2.1) (fun σ2 x2 w2 g2 => ?_) (fun σ2 x2 w2 g2 => ⟨_, rfl, ?_, TI_no h hM f1 x2.w2 g1 i1 p1 (by rw [g2, e44])⟩)
    · rw [e44] at w2
      exact absurd w2 w1
    · rw [e44, v1]
theorem b_mend {k : Int} (hk : in32 k) (h : TI M σ) (hM : M ≤ M') : Bth (d + 120) 121 230 [bo, .inl k] [mo, .inl k] σ (TI M') := by
  obtain ⟨⟨v1, v2, v3, r1, r2, r3, r4⟩, -⟩ := id h
  refine c_mend hk v2 v3 (fun σ1 f1 w1 g1 i1 p1 => ?_) (fun σ1 f1 w1 g1 i1 p1 => ?_)
  · have e44 := f1.1 44 (by decide)
    rw [v1] at w1 g1 p1
    refine q_mend hk (by rw [e44]; exact r1) (by rw [e44]; exact r2) (by rw [e44]; exact v3.2.2.1) (fun σ2 x2 w2 g2 => ⟨_, rfl, ?_, TI_deed h hM f1 x2.w2 g1 i1 p1 (by rw [g2, e44]) ?_⟩) (fun σ2 x2 w2 g2 => ?_)
    · rw [e44, g1]
    · rw [mBr_18]
      have w0 := whyM_0 w1
      unfold mnd
      split
      · rw [vu_ne (by decide)]; omega
      · rw [vu_ne (by omega)]; omega
    · rw [e44] at w2
      exact absurd w1 w2
  · have e44 := f1.1 44 (by decide)
    rw [v1] at w1 g1
    refine q_mend hk (by rw [e44]; exact r1) (by rw [e44]; exact r2) (by rw [e44]; exact v3.2.2.1) (fun σ2 x2 w2 g2 => ?_) (fun σ2 x2 w2 g2 => ⟨_, rfl, ?_, TI_no h hM f1 x2.w2 g1 i1 p1 (by rw [g2, e44])⟩)
    · rw [e44] at w2
      exact absurd w2 w1
    · rw [e44, v1]
theorem b_step {p e t : Int} (hp : in32 p) (he : (e = 0 ∧ t = -1) ∨ (e = 1 ∧ t = 1)) (h : TI M σ) (hM : M ≤ M') : Bth (d + 120) 114 210 [bo, .inl p, .inl e] [mo, .inl p, .inl e] σ (TI M') := by
  obtain ⟨⟨v1, v2, v3, r1, r2, r3, r4⟩, -⟩ := id h
  refine c_step hp he v2 v3 (fun σ1 f1 w1 g1 i1 p1 => ?_) (fun σ1 f1 w1 g1 i1 p1 => ?_)
  · have e44 := f1.1 44 (by decide)
    rw [v1] at w1 g1 p1
    refine q_step hp he (by rw [e44]; exact r1) (by rw [e44]; exact r2) (by rw [e44]; exact v3.2.2.1) (fun σ2 x2 w2 g2 => ⟨_, rfl, ?_, TI_deed h hM f1 x2.w2 g1 i1 p1 (by rw [g2, e44]) ?_⟩) (fun σ2 x2 w2 g2 => ?_)
    · rw [e44, g1]
    · rw [mBr_18]
      have w0 := whyS_0 w1
      unfold stpA
      rw [vu_ne (by omega)]; omega
    · rw [e44] at w2
      exact absurd w1 w2
  · have e44 := f1.1 44 (by decide)
    rw [v1] at w1 g1
    refine q_step hp he (by rw [e44]; exact r1) (by rw [e44]; exact r2) (by rw [e44]; exact v3.2.2.1) (fun σ2 x2 w2 g2 => ?_) (fun σ2 x2 w2 g2 => ⟨_, rfl, ?_, TI_no h hM f1 x2.w2 g1 i1 p1 (by rw [g2, e44])⟩)
    · rw [e44] at w2
      exact absurd w2 w1
    · rw [e44, v1]
end ASK
