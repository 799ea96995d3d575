/-! a2: a new plan -/
theorem wld_new {D : va_G} {dA : Nat → ClassId} {ρ ρ' : Rho} {σ σ' : Mem} {A : Nat → Prop} {H' : Heap} (N : Nat × Nat → Prop) (ha : ∀ q ∈ dom σ', ¬ N q → q ∈ dom σ ∧ ρ' q.1 q.2 = ρ q.1 q.2 ∧ cel dA ρ' σ' q.1 q.2 = cel dA ρ σ q.1 q.2) (hb : ∀ q ∈ dom σ', N q → va_at D vwCl (ρ' q.1 q.2, cel dA ρ' σ' q.1 q.2) H' ∧ A (ρ' q.1 q.2)) (hc : ∀ q ∈ dom σ', N q → ∀ q2 ∈ dom σ', ρ' q.1 q.2 = ρ' q2.1 q2.2 → q = q2)
    (hP : ∀ q ∈ dom σ, ¬ N q → va_at D vwCl (ρ q.1 q.2, cel dA ρ σ q.1 q.2) H') (hD : va_D A (wld dA ρ σ)) : va_P D vwCl (wld dA ρ' σ') H' ∧ va_D A (wld dA ρ' σ') := by
  obtain ⟨d1, d2⟩ := wldD_to hD
  refine ⟨wldP_of (fun q hq => ?_), wldD_of (fun q hq q2 hq2 e => ?_) (fun q hq => ?_)⟩
  · by_cases h : N q
    · exact (hb q hq h).1
    · obtain ⟨a1, a2, a3⟩ := ha q hq h
      rw [a2, a3]
      exact hP q a1 h
  · by_cases h : N q
    · exact hc q hq h q2 hq2 e
    · by_cases h2 : N q2
      · exact (hc q2 hq2 h2 q hq e.symm).symm
      · obtain ⟨a1, a2, a3⟩ := ha q hq h
        obtain ⟨b1, b2, b3⟩ := ha q2 hq2 h2
        exact d1 q a1 q2 b1 (by rw [← a2, ← b2]; exact e)
  · by_cases h : N q
    · exact (hb q hq h).2
    · obtain ⟨a1, a2, a3⟩ := ha q hq h
      rw [a2]
      exact d2 q a1
def pk (K : Nat) : Prop := K = 3 ∨ (21 ≤ K ∧ K ≤ 25)
def npl (σ : Mem) : Nat := (σ 60 0 0).toNat
/-- memory with a new plan -/
def newP (σ : Mem) : Mem := fun K i j => if K = 60 ∧ i = 0 ∧ j = 0 then σ 60 0 0 + 1 else if K = 3 ∧ i = npl σ then (if j = 5 then 1 else 0) else if (21 ≤ K ∧ K ≤ 25) ∧ i = npl σ then 0 else if K = 61 ∧ (i = 24 ∨ i = 25) ∧ j = npl σ then 0 else σ K i j
theorem newP_o {σ : Mem} {K i j : Nat} (h1 : ¬ K = 60) (h2 : ¬ (pk K ∧ i = npl σ)) (h3 : ¬ K = 61) : newP σ K i j = σ K i j := by
  unfold newP
  unfold pk at h2
  rw [if_neg (by omega), if_neg (by omega), if_neg (by omega), if_neg (by omega)]
theorem newP_61 {σ : Mem} {i j : Nat} (h : ¬ ((i = 24 ∨ i = 25) ∧ j = npl σ)) : newP σ 61 i j = σ 61 i j := by
  unfold newP
  rw [if_neg (by omega), if_neg (by omega), if_neg (by omega), if_neg (by omega)]
theorem cnk0 : ∀ K : Fin 59, isK K.val = true → (cnk K.val = 0 ↔ (K.val = 3 ∨ (21 ≤ K.val ∧ K.val ≤ 25))) := by decide
theorem cnt_pk {σ : Mem} {K : Nat} (hK : isK K = true) : (pk K → cnt σ K = npl σ) ∧ (¬ pk K → cnt σ K = cnk K) := by
  have hlt : K < 59 := by
    simp only [isK, Bool.or_eq_true, Bool.and_eq_true, decide_eq_true_eq] at hK
    omega
  have h := cnk0 ⟨K, hlt⟩ hK
  simp only at h
  unfold cnt
  constructor
  · intro hp
    rw [if_pos (h.mpr hp)]
    rfl
  · intro hp
    rw [if_neg (fun x => hp (h.mp x))]
theorem fds_ok : ∀ K : Fin 13, ∀ s : Fin 40, (match (fds K.val)[s.val]? with
  | some fd => (fd.1 != 3 || (!(fd.2.1 == 3 || (decide (21 ≤ fd.2.1) && decide (fd.2.1 ≤ 25))) || (K.val == 3 && fd.2.2.1 == 1 && fd.2.2.2 == 0))) && (fd.1 != 4 || (fd.2.1 == 3 && ((K.val == 4 && s.val == 9) || (K.val == 10 && s.val == 3))))
  | none => true) = true := by decide
theorem arf_ok : ∀ K : Fin 59, aet K.val ≥ 4 → ¬ ((arf K.val).1 = 3 ∨ (21 ≤ (arf K.val).1 ∧ (arf K.val).1 ≤ 25)) := by decide
/-- an old cell stays what it is -/
theorem cel_old {dA : Nat → ClassId} {ρ ρ' : Rho} {σ σ' : Mem} {K i : Nat} (hq : (K, i) ∈ dom σ) (hN : ¬ (K = 61) ) (he : ext ρ ρ') (h3 : K = 3 → ∀ K2 : Nat, 21 ≤ K2 → K2 ≤ 25 → ρ' K2 i = ρ K2 i) (hpp : (∀ w, w < 4 → ρ' 3 (σ 10 w 3).toNat = ρ 3 (σ 10 w 3).toNat) ∧ ρ' 3 (σ 4 0 9).toNat = ρ 3 (σ 4 0 9).toNat) (hm : ∀ c, σ' K i c = σ K i c) (h61 : σ' 61 K i = σ 61 K i) : cel dA ρ' σ' K i = cel dA ρ σ K i := by
  obtain ⟨k1, k2⟩ := dom_in.mp hq
  have hlt : K < 59 := dom_lt hq
  unfold cel
  by_cases c : K < 13
  · rw [if_pos c, if_pos c]
    have hl : (fds K).mapIdx (fun s fd => fvl ρ' σ' K i s fd) = (fds K).mapIdx (fun s fd => fvl ρ σ K i s fd) := by
      apply List.ext_getElem?
      intro n
      rw [List.getElem?_mapIdx, List.getElem?_mapIdx]
      cases hn : (fds K)[n]? with
      | none => rfl
      | some fd =>
        have hn40 : n < 40 := Nat.lt_of_lt_of_le (List.getElem?_eq_some_iff.mp hn).1 (fds_len K c)
        have hf := fds_ok ⟨K, c⟩ ⟨n, hn40⟩
        simp only [hn, Bool.and_eq_true, Bool.or_eq_true, bne_iff_ne, ne_eq, beq_iff_eq, decide_eq_true_eq, Bool.not_eq_true', Bool.or_eq_false_iff, Bool.and_eq_false_iff, decide_eq_false_iff_not, beq_eq_false_iff_ne] at hf
        obtain ⟨f1, f2⟩ := hf
        simp only [Option.map_some, fvl, hm]
        by_cases t3 : fd.1 = 3
        · rw [if_pos t3, if_pos t3]
          rcases f1 with f1 | f1 | f1
          · exact absurd t3 f1
          · rw [he fd.2.1 _ (by omega)]
          · obtain ⟨⟨rfl, g1⟩, g2⟩ := f1
            by_cases hp : pk fd.2.1
            · rw [g1, g2, Nat.one_mul, Nat.add_zero]
              rcases hp with hp | hp
              · exfalso
                have : ∀ s : Fin 40, (match (fds 3)[s.val]? with | some fd => fd.1 != 3 || fd.2.1 != 3 | none => true) = true := by decide
                have := this ⟨n, hn40⟩
                simp only [hn, Bool.or_eq_true, bne_iff_ne, ne_eq] at this
                omega
              · rw [h3 rfl fd.2.1 hp.1 hp.2]
            · rw [he fd.2.1 _ hp]
        · rw [if_neg t3, if_neg t3]
          by_cases t4 : fd.1 = 4
          · rw [if_pos t4, if_pos t4]
            rcases f2 with f2 | ⟨f2, f3⟩
            · exact absurd t4 f2
            · rw [f2]
              rcases f3 with ⟨rfl, rfl⟩ | ⟨rfl, rfl⟩
              · have : i = 0 := by
                  have : i < 1 := k2
                  omega
                subst this
                rw [hpp.2]
              · have : i < 4 := k2
                rw [hpp.1 i this]
          · rw [if_neg t4, if_neg t4]
    rw [hl]
  · rw [if_neg c, if_neg c]
    have e1 : alen σ' K i = alen σ K i := by unfold alen; rw [h61]
    have e2 : arc ρ' σ' K i = arc ρ σ K i := by
      unfold arc
      simp only [hm]
      split
      · rfl
      · split
        · rfl
        · rename_i n3 n4
          have := arf_ok ⟨K, hlt⟩ (by show aet K ≥ 4; omega)
          have he' : ∀ x : Nat, ρ' (arf K).1 ((arf K).2 + x) = ρ (arf K).1 ((arf K).2 + x) := fun x => he _ _ this
          simp only [he']
    rw [e1, e2]
def P3 : List CE := [.inl (3, [.inr (.inr (some (70, 1))), .inr (.inr (some (70, 2))), .inr (.inr (some (70, 3))), .inr (.inr (some (70, 4))), .inr (.inr (some (70, 5))), .inl 1, .inl 0, .inl 0, .inl 0, .inl 0]), .inr (0, 8, []), .inr (0, 6, []), .inr (0, 36, []), .inr (0, 0, []), .inr (0, 0, [])]
def eqV (a b : AV) : Bool := match a, b with
  | .inl x, .inl y => x == y
  | .inr (.inl x), .inr (.inl y) => x == y
  | .inr (.inr none), .inr (.inr none) => true
  | .inr (.inr (some p)), .inr (.inr (some q)) => p.1 == q.1 && p.2 == q.2
  | _, _ => false
theorem eqV_of {a b : AV} (h : eqV a b = true) : a = b := by
  rcases a with x | x | _ | x <;> rcases b with y | y | _ | y
  all_goals first | rfl | (simp [eqV] at h; done) | (simp only [eqV, beq_iff_eq] at h; rw [h]) | skip
  simp only [eqV, Bool.and_eq_true, beq_iff_eq] at h
  obtain ⟨h1, h2⟩ := h
  rcases x with ⟨x1, x2⟩
  rcases y with ⟨y1, y2⟩
  simp only at h1 h2
  rw [h1, h2]
def eqL2 {α : Type} (f : α → α → Bool) : List α → List α → Bool
  | [], [] => true
  | a :: r, b :: t => f a b && eqL2 f r t
  | _, _ => false
theorem eqL2_of {α : Type} {f : α → α → Bool} (hf : ∀ a b, f a b = true → a = b) : ∀ {a b : List α}, eqL2 f a b = true → a = b := by
  intro a
  induction a with
  | nil => intro b h; cases b with
    | nil => rfl
    | cons _ _ => cases h
  | cons x r ih => intro b h; cases b with
    | nil => cases h
    | cons y t =>
      simp only [eqL2, Bool.and_eq_true] at h
      rw [hf _ _ h.1, ih h.2]
def eqE (a b : CE) : Bool := match a, b with
  | .inl x, .inl y => x.1 == y.1 && eqL2 eqV x.2 y.2
  | .inr x, .inr y => x.1 == y.1 && x.2.1 == y.2.1 && eqL2 (fun p q => p.1 == q.1 && eqV p.2 q.2) x.2.2 y.2.2
  | _, _ => false
theorem eqE_of {a b : CE} (h : eqE a b = true) : a = b := by
  rcases a with ⟨x1, x2⟩ | ⟨x1, x2, x3⟩ <;> rcases b with ⟨y1, y2⟩ | ⟨y1, y2, y3⟩
  · simp only [eqE, Bool.and_eq_true, beq_iff_eq] at h
    rw [h.1, eqL2_of (fun _ _ => eqV_of) h.2]
  · cases h
  · cases h
  · simp only [eqE, Bool.and_eq_true, beq_iff_eq] at h
    have e3 : x3 = y3 := eqL2_of (fun p q hh => by
      simp only [Bool.and_eq_true, beq_iff_eq] at hh
      rcases p with ⟨p1, p2⟩
      rcases q with ⟨q1, q2⟩
      simp only at hh
      rw [hh.1, eqV_of hh.2]) h.2
    rw [h.1.1, h.1.2, e3]
def isC (a : Option (List CE)) (b : List CE) : Bool := match a with
  | some x => eqL2 eqE x b
  | none => false
theorem isC_of {a : Option (List CE)} {b : List CE} (h : isC a b = true) : a = some b := by
  cases a with
  | none => cases h
  | some x => rw [eqL2_of (fun _ _ => eqE_of) h]
theorem P3_run : exC 60 0 3 0 (ent (cL 3) [.inr (.inr (some (70, 0)))]) [] [.inl (3, dfC 3)] 0 0 = some P3 := isC_of (by decide +kernel)
theorem P3_MC : MC 0 3 [.inr (.inr (some (70, 0)))] [.inl (3, dfC 3)] P3 := exC_MC (by decide) (by decide +kernel) P3_run
/-- where a plan's cells lie -/
def rhoP (ρ : Rho) (n : Nat) (α : Nat → Nat) : Rho := fun K i => if i = n ∧ (K = 3 ∨ (21 ≤ K ∧ K ≤ 25)) then (if K = 3 then α 0 else α (K - 20)) else ρ K i
theorem wrl_one {dA : Nat → ClassId} {q k : Nat} {ρ : Rho} : wrl dA (fun _ => q) [.inl (k, dfC k)] = [(q, .inr (k, (dfC k).map (cv ρ)))] := by
  show [(q, (Sum.inr (k, (dfC k).map (cv (rA (fun _ => q)))) : va_E))] = _
  rw [dfC_cv (ρ' := ρ)]
theorem P3_k {k : Nat} (h : k = 3) : MC 0 k [.inr (.inr (some (70, 0)))] [.inl (k, dfC k)] P3 ∧ nX k = 10 ∧ cMc k = 5 ∧ cMs k = 50 ∧ cP k = 0 ∧ k < 13 := by
  subst h
  exact ⟨P3_MC, rfl, rfl, rfl, rfl, by decide⟩
theorem cel_P3 {dA : Nat → ClassId} {ρ : Rho} {σ : Mem} {α : Nat → Nat} {K : Nat} (hK : pk K) : ∃ x c, P3[x]? = some c ∧ x = (if K = 3 then 0 else K - 20) ∧ cel dA (rhoP ρ (npl σ) α) (newP σ) K (npl σ) = celC dA α c := by
  have hr : ∀ K2 : Nat, 21 ≤ K2 → K2 ≤ 25 → rhoP ρ (npl σ) α K2 (npl σ) = α (K2 - 20) := fun K2 a b => by
    unfold rhoP
    rw [if_pos ⟨rfl, Or.inr ⟨a, b⟩⟩, if_neg (by omega)]
  have h0 : ∀ K2 j : Nat, 21 ≤ K2 → K2 ≤ 25 → newP σ K2 (npl σ) j = 0 := fun K2 j a b => by
    unfold newP
    rw [if_neg (by omega), if_neg (by omega), if_pos ⟨⟨a, b⟩, rfl⟩]
  have h3 : ∀ j : Nat, newP σ 3 (npl σ) j = if j = 5 then 1 else 0 := fun j => by
    unfold newP
    rw [if_neg (by omega), if_pos ⟨rfl, rfl⟩]
  have h61 : ∀ K2 : Nat, K2 = 24 ∨ K2 = 25 → newP σ 61 K2 (npl σ) = 0 := fun K2 h => by
    unfold newP
    rw [if_neg (by omega), if_neg (by omega), if_neg (by omega), if_pos ⟨rfl, h, rfl⟩]
  have hc : K = 3 ∨ K = 21 ∨ K = 22 ∨ K = 23 ∨ K = 24 ∨ K = 25 := by
    unfold pk at hK
    omega
  rcases hc with rfl | rfl | rfl | rfl | rfl | rfl
  · refine ⟨0, _, rfl, rfl, ?_⟩
    show (Sum.inr (3, [Value.ref (rhoP ρ (npl σ) α 21 (1 * npl σ + 0)), Value.ref (rhoP ρ (npl σ) α 22 (1 * npl σ + 0)), Value.ref (rhoP ρ (npl σ) α 23 (1 * npl σ + 0)), Value.ref (rhoP ρ (npl σ) α 24 (1 * npl σ + 0)), Value.ref (rhoP ρ (npl σ) α 25 (1 * npl σ + 0)), Value.int (Int32.ofInt (newP σ 3 (npl σ) 5)), Value.int (Int32.ofInt (newP σ 3 (npl σ) 6)), Value.int (Int32.ofInt (newP σ 3 (npl σ) 7)), Value.int (Int32.ofInt (newP σ 3 (npl σ) 8)), Value.int (Int32.ofInt (newP σ 3 (npl σ) 9))]) : va_E) = _
    rw [Nat.one_mul, Nat.add_zero, hr 21 (by decide) (by decide), hr 22 (by decide) (by decide), hr 23 (by decide) (by decide), hr 24 (by decide) (by decide), hr 25 (by decide) (by decide), h3, h3, h3, h3, h3]
    rfl
  all_goals refine ⟨_, _, rfl, rfl, ?_⟩
  · show (Sum.inl (dA 0, 8, .inl (fun j => Int32.ofInt (newP σ 21 (npl σ) j))) : va_E) = _
    simp only [h0 21 _ (by decide) (by decide)]
    rfl
  · show (Sum.inl (dA 0, 6, .inl (fun j => Int32.ofInt (newP σ 22 (npl σ) j))) : va_E) = _
    simp only [h0 22 _ (by decide) (by decide)]
    rfl
  · show (Sum.inl (dA 0, 36, .inl (fun j => Int32.ofInt (newP σ 23 (npl σ) j))) : va_E) = _
    simp only [h0 23 _ (by decide) (by decide)]
    rfl
  · show (Sum.inl (dA 0, (newP σ 61 24 (npl σ)).toNat, .inl (fun j => Int32.ofInt (newP σ 24 (npl σ) j))) : va_E) = _
    simp only [h0 24 _ (by decide) (by decide), h61 24 (Or.inl rfl)]
    rfl
  · show (Sum.inl (dA 0, (newP σ 61 25 (npl σ)).toNat, .inl (fun j => Int32.ofInt (newP σ 25 (npl σ) j))) : va_E) = _
    simp only [h0 25 _ (by decide) (by decide), h61 25 (Or.inr rfl)]
    rfl
theorem cn_k {R : Room} {s : State} {args : Array Value} {o y k : Nat} (hts : ∀ w ∈ tbg, w.before args s = true) (hSC : SC s) (hy : (o, y, k) ∈ CMN) (k13 : k < 13) (hX : 2 ≤ R.frames ∧ 128 ≤ R.locals) : va_CN R s args (cnm o) y (cY k) "DebtBridge" (cB k) (cL k) none (Cond.code (cY k) (cB k) (cL k) none :: tbg) (rmC 1 (cMc k) (cMs k)) (cMc k) (cMs k) (cP k) := by
  obtain ⟨m1, m2, m3⟩ := mem3 k13
  obtain ⟨y1, y2, y3, y4, y5, y6, y7⟩ := cY_ok ⟨k, k13⟩
  simp only at y1 y2 y3 y4 y5 y6 y7
  have hgood : GoodIn tbg (Cond.code (cY k) (cB k) (cL k) none :: tbg) := by
    intro w hw
    have h : w ∈ tbg := by
      rcases List.mem_cons.mp hw with rfl | h
      · exact cc_in k13
      · exact h
    exact ⟨h, good_of_word (List.mem_filter.mp h).2⟩
  have r1 : (rmC 1 (cMc k) (cMs k)).frames + 1 ≤ R.frames := hX.1
  have r2 : 8 + (cL k + 11) + (rmC 1 (cMc k) (cMs k)).locals ≤ R.locals := Nat.le_trans (Nat.add_le_add_right (Nat.add_le_add_left (Nat.add_le_add_right y7 11) 8) 64) (Nat.le_trans (Nat.le_of_ble_eq_true rfl) hX.2)
  exact va_cnB (cP k) hts hgood rfl rfl rfl (hSC.1 _ hy) (by rw [y2]; exact hts _ m2) ⟨y4, y5, y6⟩ ⟨r1, r2⟩
section MAKE
variable {X : XR} {Y : YQ} {j pc : Nat} {ls st : List AV} {σ : Mem}
set_option maxHeartbeats 4000000 in
theorem R_newPk {x y k o : Nat} (hk3 : k = 3) (ho : mC j = o) (h1 : decode (mB j) pc = .ok (.new x, 3)) (h2 : decode (mB j) (pc + 3) = .ok (.dup, 1)) (h3 : decode (mB j) (pc + 4) = .ok (.invokespecial y, 3)) (hx : (o, x, k) ∈ CLT) (hy : (o, y, k) ∈ CMN) (hm1 : mnY Y) (hm2 : scY Y) (hnl : nrl ls = true) (hns : nrl st = true) (hst : st.length ≤ 3) (h60 : 0 ≤ σ 60 0 0) (hpp : (∀ w, w < 4 → ¬ (σ 10 w 3).toNat = npl σ) ∧ ¬ (σ 4 0 9).toNat = npl σ) (hX : 2 ≤ X.1.frames ∧ 128 ≤ X.1.locals) (hc : X.2.1 + 6 ≤ X.1.cells) (hs : X.2.2 + 60 ≤ X.1.slots)
    (hk : RnG (X.1, X.2.1 + 6, X.2.2 + 60) j (pc + 7) ls (.inr (.inr (some (3, npl σ))) :: st) (newP σ) Y) : RnG X j pc ls st σ Y := by
  intro p l e s m args below meth c D dA ρ A H locs la C hl hP hD hS
  by_cases hSC : SC s
  rotate_left 1
  · intro T hT X9
    exact ⟨_, Steps.refl _, hm2 below args s D dA ρ A _ hSC⟩
  have hts := C.2.2.2.2.1
  have hK := C.2.2.2.2.2.2.2.1
  have hA := C.2.2.2.2.2.2.2.2.1
  have hown : s.vm.findClass (cnm o) = some m.cls := by rw [← ho]; exact C.2.2.2.2.2.1
  obtain ⟨hMC, e10, ec, es, ep, k13⟩ := P3_k hk3
  obtain ⟨g1, g2, g3, g4⟩ := cl_at k13
  obtain ⟨m1, m2, m3⟩ := mem3 k13
  obtain ⟨y1, y2, y3, y4, y5, y6, y7⟩ := cY_ok ⟨k, k13⟩
  simp only at y1 y2 y3 y4 y5 y6 y7
  have hfs : ∀ i, i < nX k → defaultValue (tyX k i) = vp_V ((dfC k).map (cv ρ)) i := fun i hi => by
    rw [dfC_cv (ρ' := fun _ _ => 0)]
    exact dfl_ok ⟨k, k13⟩ ⟨i, by omega⟩ hi
  refine va_new (C := cnm k) (T := tX k) (N := nX k) (ci := k) (own := cnm o) C.1 C.2.1 hts g2 (tyX k) g3 hown (hts _ (CLT_in _ (List.mem_map.mpr ⟨_, hx, rfl⟩))) (hts _ m3) (hts _ m2) hK hP hD hS hA g1 hfs (by omega) (by rw [e10]; omega) h1 (fun q H1 hP1 hD1 hS1 => ?_)
  refine lv_dup C.1 C.2.1 h2 rfl ?_
  have hgood : GoodIn tbg (Cond.code (cY k) (cB k) (cL k) none :: tbg) := by
    intro w hw
    have h : w ∈ tbg := by
      rcases List.mem_cons.mp hw with rfl | h
      · exact cc_in k13
      · exact h
    exact ⟨h, good_of_word (List.mem_filter.mp h).2⟩
  have hlen : (wld dA ρ σ ++ [(q, (Sum.inr (k, (dfC k).map (cv ρ)) : va_E))])[(wld dA ρ σ).length]? = some (q, .inr (k, (dfC k).map (cv ρ))) := by
    rw [List.getElem?_append_right (Nat.le_refl _), Nat.sub_self]
    rfl
  have hPo : va_P D vwCl (wld dA ρ σ) H1 := fun k9 x hx => hP1 k9 x (by rw [List.getElem?_append_left (List.getElem?_eq_some_iff.mp hx).1]; exact hx)
  have hPq : va_P D vwCl (wrl dA (fun _ => q) [.inl (k, dfC k)]) H1 := by
    rw [wrl_one (ρ := ρ)]
    intro k9 x hx
    have hz : k9 = 0 := by
      have := (List.getElem?_eq_some_iff.mp hx).1
      simp at this
      omega
    subst hz
    cases hx
    exact hP1 _ _ hlen
  have hDq : va_D (fun _ => True) (wrl dA (fun _ => q) [.inl (k, dfC k)]) := by
    rw [wrl_one (ρ := ρ)]
    refine ⟨fun i k9 x y hx hy _ => ?_, fun _ _ _ => trivial⟩
    have a := (List.getElem?_eq_some_iff.mp hx).1
    have b := (List.getElem?_eq_some_iff.mp hy).1
    simp at a b
    omega
  have hqA : A q := hD1.2 _ _ hlen
  have hold : ∀ qq ∈ dom σ, ρ qq.1 qq.2 < H1.size ∧ ¬ ρ qq.1 qq.2 = q := fun qq hqq => by
    obtain ⟨k9, hk'⟩ := List.getElem?_of_mem hqq
    have hw : (wld dA ρ σ)[k9]? = some (ρ qq.1 qq.2, cel dA ρ σ qq.1 qq.2) := by
      unfold wld
      rw [List.getElem?_map, hk']
      rfl
    refine ⟨(hPo k9 _ hw).lt, fun x => ?_⟩
    have hkl := (List.getElem?_eq_some_iff.mp hw).1
    have := hD1.1 k9 (wld dA ρ σ).length _ _ (by rw [List.getElem?_append_left hkl]; exact hw) hlen x
    omega
  have hp : FrameBlind (va_Pc ([(Sum.inr (.inr (some (70, 0))))].map (cv (rA (fun _ => q)))) (fun U => U.heap.size = H1.size ∧ va_P D vwCl (wrl dA (fun _ => q) [.inl (k, dfC k)]) U.heap ∧ va_K D vwCl (tys dA) U ∧ va_D (fun _ => True) (wrl dA (fun _ => q) [.inl (k, dfC k)]) ∧ SC U)) ∧ ∀ U : State, U.heap = H1 → s.WarmedH U.vm → va_Pc ([(Sum.inr (.inr (some (70, 0))))].map (cv (rA (fun _ => q)))) (fun U => U.heap.size = H1.size ∧ va_P D vwCl (wrl dA (fun _ => q) [.inl (k, dfC k)]) U.heap ∧ va_K D vwCl (tys dA) U ∧ va_D (fun _ => True) (wrl dA (fun _ => q) [.inl (k, dfC k)]) ∧ SC U) ([Value.ref q].toArray) U := by
    refine ⟨fun a U g mk w => ?_, fun U hU hW => ⟨rfl, by rw [hU], by rw [hU]; exact hPq, va_K.moved hW.alike hK, hDq, hSC.go hW⟩⟩
    obtain ⟨q0, q1, qP, qK, qD, qT⟩ := w
    exact ⟨q0, q1, qP, va_K.moved (u := U) (U := U.calling g mk a) (Vm.Alike.refl U.vm) qK, qD, qT.same rfl⟩
  have h3' : decode (mB j) (F0 m (pc + 3 + 1) la (.ref q :: .ref q :: st.map (cv ρ))).pc = .ok (.invokespecial y, 3) := h3
  have hst9 : (F0 m (pc + 3 + 1) la (.ref q :: .ref q :: st.map (cv ρ))).stack = ([] : List Value).reverse ++ Value.ref q :: (.ref q :: st.map (cv ρ)) := rfl
  have hrm9 : ((Value.ref q :: st.map (cv ρ)).map fun v => v.category).sum ≤ 8 := by
    have h8 : ∀ (st : List AV), ((st.map (cv ρ)).map fun v => v.category).sum ≤ 2 * st.length := by
      intro st
      induction st with
      | nil => simp
      | cons v r ih =>
        have : (cv ρ v).category ≤ 2 := by rw [isL_cat]; split <;> omega
        simp only [List.map_cons, List.sum_cons, List.length_cons]
        omega
    have := h8 st
    simp only [List.map_cons, List.sum_cons]
    have e9 : (Value.ref q).category = 1 := rfl
    omega
  have hcn := cn_k (R := X.1) hts hSC hy k13 hX
  have hM9 := hMC l D dA (fun _ => q) H1.size
  have run : va_Run p l e X.1 s m args below meth c H1 locs (X.2.1 + 1) (X.2.2 + nX k) (cMc k) (cMs k) (F0 m (pc + 3 + 1) la (.ref q :: .ref q :: st.map (cv ρ))) (.ref q :: st.map (cv ρ)) (QC D dA (fun _ => q) [(.inl (k, dfC k) : CE)].length (va_A (wrl dA (fun _ => q) [.inl (k, dfC k)]) H1.size) P3 ([Value.ref q].toArray)) (va_A (wrl dA (fun _ => q) [.inl (k, dfC k)]) H1.size) :=
    va_runIN (own := cnm o) (As := []) (b := q) ⟨C.1, C.2.1, C.2.2.2.1, hown, hts⟩ hM9 ⟨hcn, y3, hts _ m1⟩ hp rfl (show ([] : List Value).length = cP k from ep.symm) hl.1 hst9 (lv_room hrm9) h3' ⟨by rw [ec]; omega, by rw [e10, es]; omega⟩
  intro T hT X9
  obtain ⟨v, st₀, t, T', L, h0, X', hL, e1, e2, ⟨⟨α, ha, hv, hP', hK', hD'⟩, hz, hkk⟩, stp⟩ := run T hT X9
  cases hv
  rw [h0] at hz hkk
  rw [← e1] at hP' hz hkk
  have a0 : α 0 = q := ha 0 (by show 0 < 1; decide)
  have hA1 : ∀ x : Nat, va_A (wrl dA (fun _ => q) [.inl (k, dfC k)]) H1.size x → x = q ∨ H1.size ≤ x := by
    rintro x (⟨k9, e9, h9⟩ | h9)
    · left
      rw [wrl_one (ρ := ρ)] at h9
      have hz0 : k9 = 0 := by
        have := (List.getElem?_eq_some_iff.mp h9).1
        simp at this
        omega
      subst hz0
      have := Option.some.inj h9
      exact (Prod.mk.inj this).1.symm
    · exact Or.inr h9
  have hsz1 : s.heap.size ≤ H1.size := hS1.1
  have hAA : ∀ x : Nat, va_A (wrl dA (fun _ => q) [.inl (k, dfC k)]) H1.size x → A x := fun x hx9 => by
    rcases hA1 x hx9 with rfl | h9
    · exact hqA
    · exact hA x (by omega)
  have he : ext ρ (rhoP ρ (npl σ) α) := fun K i hK9 => by
    unfold rhoP
    rw [if_neg (fun x => hK9 x.2)]
  have rold : ∀ K i : Nat, ¬ i = npl σ → rhoP ρ (npl σ) α K i = ρ K i := fun K i hi => by
    unfold rhoP
    rw [if_neg (fun x => hi x.1)]
  have rnew : ∀ K : Nat, pk K → rhoP ρ (npl σ) α K (npl σ) = α (if K = 3 then 0 else K - 20) := fun K hK9 => by
    unfold rhoP
    rw [if_pos ⟨rfl, hK9⟩]
    split <;> rfl
  have hnp : npl (newP σ) = npl σ + 1 := by
    show (newP σ 60 0 0).toNat = (σ 60 0 0).toNat + 1
    unfold newP
    rw [if_pos ⟨rfl, rfl, rfl⟩]
    omega
  have hdom : ∀ qq ∈ dom (newP σ), ¬ (pk qq.1 ∧ qq.2 = npl σ) → qq ∈ dom σ := fun qq hqq hn => by
    obtain ⟨d1, d2⟩ := dom_in.mp hqq
    refine dom_in.mpr ⟨d1, ?_⟩
    by_cases hp9 : pk qq.1
    · rw [(cnt_pk d1).1 hp9, hnp] at d2
      rw [(cnt_pk d1).1 hp9]
      have : ¬ qq.2 = npl σ := fun x => hn ⟨hp9, x⟩
      omega
    · rw [(cnt_pk d1).2 hp9] at d2 ⊢
      exact d2
  have hnot : ∀ qq ∈ dom σ, ¬ (pk qq.1 ∧ qq.2 = npl σ) := fun qq hqq x => by
    obtain ⟨d1, d2⟩ := dom_in.mp hqq
    rw [(cnt_pk d1).1 x.1] at d2
    omega
  have ixl : ∀ K : Nat, pk K → (if K = 3 then 0 else K - 20) < 6 := fun K hK9 => by
    unfold pk at hK9
    split <;> omega
  have hal : ∀ x : Nat, x < 6 → va_A (wrl dA (fun _ => q) [.inl (k, dfC k)]) H1.size (α x) := fun x hx9 => by
    obtain ⟨c9, hc9⟩ : ∃ c9, P3[x]? = some c9 := ⟨_, List.getElem?_eq_getElem (by show x < 6; exact hx9)⟩
    exact hD'.2 x _ (wrl_at hc9)
  have hinj : ∀ x y : Nat, x < 6 → y < 6 → α x = α y → x = y := fun x y hx9 hy9 h9 => by
    obtain ⟨c9, hc9⟩ : ∃ c9, P3[x]? = some c9 := ⟨_, List.getElem?_eq_getElem (by show x < 6; exact hx9)⟩
    obtain ⟨c8, hc8⟩ : ∃ c8, P3[y]? = some c8 := ⟨_, List.getElem?_eq_getElem (by show y < 6; exact hy9)⟩
    exact hD'.1 x y _ _ (wrl_at hc9) (wrl_at hc8) h9
  have W9 := wld_new (D := D) (dA := dA) (ρ := ρ) (ρ' := rhoP ρ (npl σ) α) (σ := σ) (σ' := newP σ) (A := A) (H' := T'.heap) (fun qq => pk qq.1 ∧ qq.2 = npl σ) (fun qq hqq hn => ?_) (fun qq hqq hn => ?_) (fun qq hqq hn q2 hq2 h9 => ?_) (fun qq hqq hn => ?_) hD
  · obtain ⟨hPn, hDn⟩ := W9
    have G := hk p l e s m args below meth c D dA (rhoP ρ (npl σ) α) A T'.heap (locs ++ L) la (Cx_ext he C) (by rw [lvp_ext he ls 0 hnl]; exact hl) hPn hDn
      ⟨Nat.le_trans hS1.1 hz, fun x g8 g9 => by rw [hkk x (Nat.lt_of_lt_of_le g8 hS1.1) (fun z => g9 (hAA x z))]; exact hS1.2.1 x g8 g9, fun x hx9 => by
        rcases List.mem_append.mp hx9 with h | h
        · exact hS1.2.2 x h
        · exact hAA _ (hL x h)⟩
    rw [List.map_cons, map_ext hns he] at G
    have e9 : cv (rhoP ρ (npl σ) α) (.inr (.inr (some (3, npl σ)))) = .ref q := by
      show Value.ref (rhoP ρ (npl σ) α 3 (npl σ)) = .ref q
      rw [rnew 3 (Or.inl rfl), if_pos rfl, a0]
    rw [e9] at G
    have X' : Stand p l e X.1 s m args below meth c T' (locs ++ L) (X.2.1 + 6) (X.2.2 + 60) := by
      have x9 := X'
      rw [ec, es, e10] at x9
      exact x9
    obtain ⟨t2, b1, b2⟩ := G T' rfl X'
    exact ⟨t2, stp t2 b1, hm1 below args s D dA ρ _ A t2 he b2⟩
  · have hq9 := hdom qq hqq hn
    have hlt : qq.1 < 59 := dom_lt hq9
    have d2 := (dom_in.mp hq9).2
    have d1 := (dom_in.mp hq9).1
    have i9 : pk qq.1 → ¬ qq.2 = npl σ := fun x y => hn ⟨x, y⟩
    refine ⟨hq9, ?_, cel_old hq9 (by omega) he (fun h9 K2 k1 k2 => rold K2 qq.2 (i9 (Or.inl h9))) ⟨fun w hw => rold 3 _ (by have := hpp.1 w hw; omega), rold 3 _ (by have := hpp.2; omega)⟩ (fun c9 => newP_o (by omega) (fun x => hn x) (by omega)) ?_⟩
    · by_cases hp9 : pk qq.1
      · exact rold _ _ (i9 hp9)
      · exact he _ _ hp9
    · refine newP_61 (fun x => ?_)
      have : pk qq.1 := by unfold pk; omega
      exact i9 this x.2
  · obtain ⟨K, i⟩ := qq
    obtain ⟨hp9, rfl⟩ := hn
    have hp9 : pk K := hp9
    obtain ⟨x9, c9, hc9, hx9, hcel⟩ := cel_P3 (dA := dA) (ρ := ρ) (σ := σ) (α := α) hp9
    show va_at D vwCl (rhoP ρ (npl σ) α K (npl σ), cel dA (rhoP ρ (npl σ) α) (newP σ) K (npl σ)) T'.heap ∧ A (rhoP ρ (npl σ) α K (npl σ))
    rw [rnew K hp9, hcel, ← hx9]
    exact ⟨hP' x9 _ (wrl_at hc9), hAA _ (hal x9 (by rw [hx9]; exact ixl K hp9))⟩
  · obtain ⟨K, i⟩ := qq
    obtain ⟨hp9, rfl⟩ := hn
    have hp9 : pk K := hp9
    have h9 : rhoP ρ (npl σ) α K (npl σ) = rhoP ρ (npl σ) α q2.1 q2.2 := h9
    rw [rnew K hp9] at h9
    by_cases h8 : pk q2.1 ∧ q2.2 = npl σ
    · rw [h8.2, rnew q2.1 h8.1] at h9
      have := hinj _ _ (ixl K hp9) (ixl _ h8.1) h9
      have hKK : K = q2.1 := by
        have a := hp9
        have b := h8.1
        unfold pk at a b
        (repeat' split at this) <;> omega
      rw [hKK, ← h8.2]
    · exfalso
      have hq9 := hdom q2 hq2 h8
      have e8 : rhoP ρ (npl σ) α q2.1 q2.2 = ρ q2.1 q2.2 := by
        by_cases hp8 : pk q2.1
        · exact rold _ _ (fun x => h8 ⟨hp8, x⟩)
        · exact he _ _ hp8
      rw [e8] at h9
      have o9 := hold q2 hq9
      rcases hA1 _ (hal _ (ixl K hp9)) with x | x
      · exact o9.2 (by rw [← h9]; exact x)
      · rw [h9] at x
        omega
  · have o9 := hold qq hqq
    have hnA : ¬ va_A (wrl dA (fun _ => q) [.inl (k, dfC k)]) H1.size (ρ qq.1 qq.2) := fun x => by
      rcases hA1 _ x with y | y
      · exact o9.2 y
      · omega
    exact (wldP_to hPo hqq).kept (hkk _ o9.1 hnA)
theorem R_newP {x y o : Nat} (ho : mC j = o) (h1 : decode (mB j) pc = .ok (.new x, 3)) (h2 : decode (mB j) (pc + 3) = .ok (.dup, 1)) (h3 : decode (mB j) (pc + 4) = .ok (.invokespecial y, 3)) (hx : (o, x, 3) ∈ CLT) (hy : (o, y, 3) ∈ CMN) (hm1 : mnY Y) (hm2 : scY Y) (hnl : nrl ls = true) (hns : nrl st = true) (hst : st.length ≤ 3) (h60 : 0 ≤ σ 60 0 0) (hpp : (∀ w, w < 4 → ¬ (σ 10 w 3).toNat = npl σ) ∧ ¬ (σ 4 0 9).toNat = npl σ) (hX : 2 ≤ X.1.frames ∧ 128 ≤ X.1.locals) (hc : X.2.1 + 6 ≤ X.1.cells) (hs : X.2.2 + 60 ≤ X.1.slots)
    (hk : RnG (X.1, X.2.1 + 6, X.2.2 + 60) j (pc + 7) ls (.inr (.inr (some (3, npl σ))) :: st) (newP σ) Y) : RnG X j pc ls st σ Y := R_newPk rfl ho h1 h2 h3 hx hy hm1 hm2 hnl hns hst h60 hpp hX hc hs hk
end MAKE
