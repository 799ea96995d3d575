/-! 03: values and memory of the abstract machine, and the world of cells that they stand for -/
abbrev AV : Type := Int ⊕ (Int ⊕ Option (Nat × Nat))
abbrev Mem : Type := Nat → Nat → Nat → Int
abbrev Rho : Type := Nat → Nat → Nat
def vN : AV := .inr (.inr none)
def cv (ρ : Rho) (v : AV) : Value := match v with
  | .inl z => .int (Int32.ofInt z)
  | .inr (.inl z) => .long (Int64.ofInt z)
  | .inr (.inr none) => .null
  | .inr (.inr (some q)) => .ref (ρ q.1 q.2)
/-- memory with one number changed -/
def mu (σ : Mem) (K i j : Nat) (v : Int) : Mem := fun a b c => if a = K ∧ b = i ∧ c = j then v else σ a b c
def cnt (σ : Mem) (K : Nat) : Nat := if cnk K = 0 then (σ 60 0 0).toNat else cnk K
def rk : List Nat := [0, 1, 2, 3, 4, 5, 6, 7, 8, 9, 10, 11, 12, 16, 17, 18, 19, 20, 21, 22, 23, 24, 25, 26, 27, 28, 29, 30, 31, 32, 33, 34, 35, 36, 37, 38, 39, 40, 41, 42, 43, 44, 45, 46, 47, 48, 49, 50, 51, 52, 53, 54, 55, 56, 57, 58]
def isK (K : Nat) : Bool := K < 13 || (16 ≤ K && K < 59)
theorem rk_mem {K : Nat} (h : isK K = true) : K ∈ rk := by
  have h1 : ∀ K, K < 59 → isK K = true → K ∈ rk := by decide
  refine h1 K ?_ h
  simp only [isK, Bool.or_eq_true, Bool.and_eq_true, decide_eq_true_eq] at h
  omega
def dom (σ : Mem) : List (Nat × Nat) := rk.flatMap (fun K => (List.range (cnt σ K)).map (fun i => (K, i)))
theorem dom_mem {σ : Mem} {K i : Nat} (hK : isK K = true) (hi : i < cnt σ K) : (K, i) ∈ dom σ := List.mem_flatMap.mpr ⟨K, rk_mem hK, List.mem_map.mpr ⟨i, List.mem_range.mpr hi, rfl⟩⟩
theorem rk_lt : ∀ K ∈ rk, K < 59 := by decide
theorem dom_lt {σ : Mem} {q : Nat × Nat} (h : q ∈ dom σ) : q.1 < 59 := by
  obtain ⟨K, hK, h2⟩ := List.mem_flatMap.mp h
  obtain ⟨i, -, rfl⟩ := List.mem_map.mp h2
  exact rk_lt K hK
theorem mu_other {σ : Mem} {K i j a b c : Nat} {v : Int} (h : ¬ a = K) : mu σ K i j v a b c = σ a b c := by
  unfold mu
  exact if_neg (fun x => h x.1)
theorem cnt_mu {σ : Mem} {K i j : Nat} {v : Int} (h : K < 59) (K' : Nat) : cnt (mu σ K i j v) K' = cnt σ K' := by
  unfold cnt
  rw [mu_other (by omega)]
theorem dom_mu {σ : Mem} {K i j : Nat} {v : Int} (h : K < 59) : dom (mu σ K i j v) = dom σ := by
  unfold dom
  simp only [cnt_mu h]
def alen (σ : Mem) (K i : Nat) : Nat := if alk K = 0 then (σ 61 K i).toNat else alk K
theorem alen_mu {σ : Mem} {K i j : Nat} {v : Int} (h : K < 59) (K' i' : Nat) : alen (mu σ K i j v) K' i' = alen σ K' i' := by
  unfold alen
  rw [mu_other (by omega)]
def fvl (ρ : Rho) (σ : Mem) (K i s : Nat) (fd : Nat × Nat × Nat × Nat) : Value :=
  if fd.1 = 3 then .ref (ρ fd.2.1 (fd.2.2.1 * i + fd.2.2.2)) else if fd.1 = 4 then .ref (ρ fd.2.1 (σ K i s).toNat) else if fd.1 = 1 then .long (Int64.ofInt (σ K i s)) else .int (Int32.ofInt (σ K i s))
def arc (ρ : Rho) (σ : Mem) (K i : Nat) : (Nat → Int32) ⊕ (Nat → Int64) ⊕ (Nat → UInt32) ⊕ (Nat → UInt64) ⊕ (Nat → Option Nat) :=
  if aet K = 3 then .inr (.inl (fun j => Int64.ofInt (σ K i j))) else if aet K < 3 then .inl (fun j => Int32.ofInt (σ K i j)) else .inr (.inr (.inr (.inr (fun j => some (ρ (arf K).1 ((arf K).2 + j))))))
def cel (dA : Nat → ClassId) (ρ : Rho) (σ : Mem) (K i : Nat) : va_E :=
  if K < 13 then .inr (K, (fds K).mapIdx (fun s fd => fvl ρ σ K i s fd)) else .inl (dA (aet K), alen σ K i, arc ρ σ K i)
def wld (dA : Nat → ClassId) (ρ : Rho) (σ : Mem) : va_W := (dom σ).map (fun q => (ρ q.1 q.2, cel dA ρ σ q.1 q.2))
def tys (dA : Nat → ClassId) : List (ClassId × FieldType) := [(dA 0, .int), (dA 1, .byte), (dA 2, .boolean), (dA 3, .long), (dA 4, .object RX8), (dA 5, .object RX10), (dA 6, .object RX7)]
theorem cel_mu {dA : Nat → ClassId} {ρ : Rho} {σ : Mem} {K i j K' i' : Nat} {v : Int} (h : K < 59) (hne : ¬ (K' = K ∧ i' = i)) : cel dA ρ (mu σ K i j v) K' i' = cel dA ρ σ K' i' := by
  have e : ∀ s, mu σ K i j v K' i' s = σ K' i' s := fun s => by
    unfold mu
    exact if_neg (fun x => hne ⟨x.1, x.2.1⟩)
  unfold cel
  simp only [alen_mu h, fvl, arc, e]
theorem wld_at {dA : Nat → ClassId} {ρ : Rho} {σ : Mem} {K i : Nat} (hK : isK K = true) (hi : i < cnt σ K) : ∃ q0 : Nat, (dom σ)[q0]? = some (K, i) ∧ (wld dA ρ σ)[q0]? = some (ρ K i, cel dA ρ σ K i) := by
  obtain ⟨q0, h⟩ := List.getElem?_of_mem (dom_mem hK hi)
  refine ⟨q0, h, ?_⟩
  unfold wld
  rw [List.getElem?_map, h]
  rfl
theorem wld_set {dA : Nat → ClassId} {ρ : Rho} {σ : Mem} {A : Nat → Prop} {K i j q0 : Nat} {v : Int} (hK : K < 59) (hq : (dom σ)[q0]? = some (K, i)) (hD : va_D A (wld dA ρ σ)) :
    (wld dA ρ σ).set q0 (ρ K i, cel dA ρ (mu σ K i j v) K i) = wld dA ρ (mu σ K i j v) := by
  apply List.ext_getElem?
  intro n
  rw [List.getElem?_set]
  unfold wld
  rw [dom_mu hK, List.getElem?_map, List.getElem?_map, List.length_map]
  by_cases h : q0 = n
  · subst h
    have hl : q0 < (dom σ).length := (List.getElem?_eq_some_iff.mp hq).1
    rw [if_pos rfl, if_pos hl, hq]
    rfl
  · rw [if_neg h]
    cases hn : (dom σ)[n]? with
    | none => rfl
    | some q =>
      have hne : ¬ (q.1 = K ∧ q.2 = i) := fun x => by
        have h1 : (wld dA ρ σ)[q0]? = some (ρ K i, cel dA ρ σ K i) := by
          unfold wld
          rw [List.getElem?_map, hq]
          rfl
        have h2 : (wld dA ρ σ)[n]? = some (ρ q.1 q.2, cel dA ρ σ q.1 q.2) := by
          unfold wld
          rw [List.getElem?_map, hn]
          rfl
        exact h (hD.1 _ _ _ _ h1 h2 (by rw [x.1, x.2]))
      simp only [Option.map_some, cel_mu hK hne]
theorem fld_at {dA : Nat → ClassId} {ρ : Rho} {σ : Mem} {K i s : Nat} {fd : Nat × Nat × Nat × Nat} (hs : (fds K)[s]? = some fd) : ((fds K).mapIdx (fun s fd => fvl ρ σ K i s fd))[s]? = some (fvl ρ σ K i s fd) := by
  rw [List.getElem?_mapIdx, hs]
  rfl
theorem fld_set {ρ : Rho} {σ : Mem} {K i s : Nat} {fd : Nat × Nat × Nat × Nat} {v : Int} (hs : (fds K)[s]? = some fd) :
    ((fds K).mapIdx (fun s fd => fvl ρ σ K i s fd)).set s (fvl ρ (mu σ K i s v) K i s fd) = (fds K).mapIdx (fun n fd => fvl ρ (mu σ K i s v) K i n fd) := by
  apply List.ext_getElem?
  intro n
  rw [List.getElem?_set, List.getElem?_mapIdx, List.getElem?_mapIdx, List.length_mapIdx]
  by_cases h : s = n
  · subst h
    have hl : s < (fds K).length := (List.getElem?_eq_some_iff.mp hs).1
    rw [if_pos rfl, if_pos hl, hs]
    rfl
  · rw [if_neg h]
    have e : mu σ K i s v K i n = σ K i n := by
      unfold mu
      exact if_neg (fun x => h x.2.2.symm)
    cases hn : (fds K)[n]? with
    | none => rfl
    | some q => simp only [Option.map_some, fvl, e]
/-! locals -/
def lg : List AV → Nat → AV
  | [], _ => vN
  | a :: _, 0 => a
  | _ :: r, n + 1 => lg r n
def isN (v : AV) : Bool := match v with
  | .inr (.inr none) => true
  | _ => false
def lvp (ρ : Rho) : Nat → List AV → List (Nat × Value)
  | _, [] => []
  | i, v :: r => if isN v then lvp ρ (i + 1) r else (i, cv ρ v) :: lvp ρ (i + 1) r
theorem lvp_mem (ρ : Rho) : ∀ (ls : List AV) (i : Nat) (q : Nat × Value), q ∈ lvp ρ i ls ↔ ∃ n, n < ls.length ∧ q = (i + n, cv ρ (lg ls n)) ∧ isN (lg ls n) = false := by
  intro ls
  induction ls with
  | nil => intro i q; simp [lvp]
  | cons a r ih =>
    intro i q
    constructor
    · intro h
      unfold lvp at h
      by_cases ha : isN a = true
      · rw [if_pos ha] at h
        obtain ⟨n, h1, h2, h3⟩ := (ih (i + 1) q).mp h
        exact ⟨n + 1, by simp; omega, by rw [h2]; simp [lg]; omega, h3⟩
      · rw [if_neg ha] at h
        rcases List.mem_cons.mp h with rfl | h
        · exact ⟨0, by simp, by simp [lg], by simpa [lg] using ha⟩
        · obtain ⟨n, h1, h2, h3⟩ := (ih (i + 1) q).mp h
          exact ⟨n + 1, by simp; omega, by rw [h2]; simp [lg]; omega, h3⟩
    · rintro ⟨n, h1, h2, h3⟩
      unfold lvp
      cases n with
      | zero =>
        simp only [lg] at h2 h3
        rw [h3]
        simp [h2]
      | succ n =>
        have h4 : q ∈ lvp ρ (i + 1) r := (ih (i + 1) q).mpr ⟨n, by simp at h1; omega, by rw [h2]; simp [lg]; omega, h3⟩
        by_cases ha : isN a = true
        · rw [if_pos ha]; exact h4
        · rw [if_neg ha]; exact List.mem_cons_of_mem _ h4
theorem lg_len : ∀ {ls : List AV} {n : Nat}, isN (lg ls n) = false → n < ls.length := by
  intro ls
  induction ls with
  | nil => intro n h; simp [lg, isN, vN] at h
  | cons a r ih =>
    intro n h
    cases n with
    | zero => simp
    | succ n => simp only [lg] at h; have := ih h; simp; omega
theorem lv_get {ρ : Rho} {la : Array Slot} {nL : Nat} {ls : List AV} {k : Nat} {v : AV} (hl : lv_has la nL (lvp ρ 0 ls)) (hv : lg ls k = v) (hn : isN v = false) : la[k]? = some (.val (cv ρ v)) := by
  have h1 : (k, cv ρ v) ∈ lvp ρ 0 ls := (lvp_mem ρ ls 0 _).mpr ⟨k, lg_len (by rw [hv]; exact hn), by simp [hv], by rw [hv]; exact hn⟩
  exact hl.2.2 _ h1
theorem lv_mono {la : Array Slot} {nL : Nat} {l l' : List (Nat × Value)} (h : lv_has la nL l) (hs : ∀ q ∈ l', q ∈ l) : lv_has la nL l' := ⟨h.1, h.2.1, fun q hq => h.2.2 q (hs q hq)⟩
def noL (v : AV) : AV := match v with
  | .inr (.inl _) => .inr (.inr none)
  | v => v
def ls1 : List AV → Nat → AV → List AV
  | [], _, _ => []
  | _ :: r, 0, v => v :: r
  | a :: r, n + 1, v => (if n = 0 then noL a else a) :: ls1 r n v
def ls2 : List AV → Nat → AV → List AV
  | [], _, _ => []
  | _ :: [], 0, v => [v]
  | _ :: _ :: r, 0, v => v :: .inr (.inr none) :: r
  | a :: r, n + 1, v => (if n = 0 then noL a else a) :: ls2 r n v
theorem noL_cat {ρ : Rho} {v : AV} (h : isN (noL v) = false) : noL v = v ∧ (cv ρ v).category = 1 := by
  rcases v with z | z | _ | q
  · exact ⟨rfl, rfl⟩
  · simp [noL, isN] at h
  · simp [noL, isN] at h
  · exact ⟨rfl, rfl⟩
theorem ls1_get : ∀ (ls : List AV) (k n : Nat) (v : AV), isN (lg (ls1 ls k v) n) = false → (n = k ∧ lg (ls1 ls k v) n = v) ∨ (¬ n = k ∧ lg (ls1 ls k v) n = lg ls n ∧ (n + 1 = k → noL (lg ls n) = lg ls n)) := by
  intro ls
  induction ls with
  | nil => intro k n v h; simp [ls1, lg, isN, vN] at h
  | cons a r ih =>
    intro k n v h
    cases k with
    | zero =>
      cases n with
      | zero => exact Or.inl ⟨rfl, rfl⟩
      | succ n => exact Or.inr ⟨by omega, rfl, by omega⟩
    | succ k =>
      cases n with
      | zero =>
        refine Or.inr ⟨by omega, ?_⟩
        simp only [ls1, lg] at h ⊢
        by_cases hk : k = 0
        · rw [if_pos hk] at h ⊢
          exact ⟨(noL_cat (ρ := fun _ _ => 0) h).1, fun _ => (noL_cat (ρ := fun _ _ => 0) h).1⟩
        · rw [if_neg hk]
          exact ⟨rfl, fun e => by omega⟩
      | succ n =>
        simp only [ls1, lg] at h ⊢
        rcases ih k n v h with ⟨h1, h2⟩ | ⟨h1, h2, h3⟩
        · exact Or.inl ⟨by omega, h2⟩
        · exact Or.inr ⟨by omega, h2, fun e => h3 (by omega)⟩
theorem ls2_get : ∀ (ls : List AV) (k n : Nat) (v : AV), isN (lg (ls2 ls k v) n) = false → (n = k ∧ lg (ls2 ls k v) n = v) ∨ (¬ n = k ∧ ¬ n = k + 1 ∧ lg (ls2 ls k v) n = lg ls n ∧ (n + 1 = k → noL (lg ls n) = lg ls n)) := by
  intro ls
  induction ls with
  | nil => intro k n v h; simp [ls2, lg, isN, vN] at h
  | cons a r ih =>
    intro k n v h
    cases k with
    | zero =>
      cases r with
      | nil =>
        cases n with
        | zero => exact Or.inl ⟨rfl, rfl⟩
        | succ n => simp [ls2, lg, isN, vN] at h
      | cons b r =>
        cases n with
        | zero => exact Or.inl ⟨rfl, rfl⟩
        | succ n =>
          cases n with
          | zero => simp [ls2, lg, isN] at h
          | succ n => exact Or.inr ⟨by omega, by omega, rfl, by omega⟩
    | succ k =>
      cases n with
      | zero =>
        refine Or.inr ⟨by omega, by omega, ?_⟩
        simp only [ls2, lg] at h ⊢
        by_cases hk : k = 0
        · rw [if_pos hk] at h ⊢
          exact ⟨(noL_cat (ρ := fun _ _ => 0) h).1, fun _ => (noL_cat (ρ := fun _ _ => 0) h).1⟩
        · rw [if_neg hk]
          exact ⟨rfl, fun e => by omega⟩
      | succ n =>
        simp only [ls2, lg] at h ⊢
        rcases ih k n v h with ⟨h1, h2⟩ | ⟨h1, h2, h3, h4⟩
        · exact Or.inl ⟨by omega, h2⟩
        · exact Or.inr ⟨by omega, by omega, h3, fun e => h4 (by omega)⟩
theorem lv_set1 {ρ : Rho} {la : Array Slot} {nL : Nat} {ls : List AV} {k : Nat} {v : AV} (h : lv_has la nL ((k, cv ρ v) :: (lvp ρ 0 ls).filter (fun q => !(q.1 == k) && !(q.1 + 1 == k && q.2.category == 2)))) : lv_has la nL (lvp ρ 0 (ls1 ls k v)) := by
  refine lv_mono h (fun q hq => ?_)
  obtain ⟨n, h1, h2, h3⟩ := (lvp_mem ρ _ 0 q).mp hq
  rcases ls1_get ls k n v h3 with ⟨e, e2⟩ | ⟨e, e2, e3⟩
  · rw [h2, e2, e]; simp
  · rw [h2, e2]
    refine List.mem_cons_of_mem _ (List.mem_filter.mpr ⟨(lvp_mem ρ ls 0 _).mpr ⟨n, lg_len (by rw [← e2]; exact h3), rfl, by rw [← e2]; exact h3⟩, ?_⟩)
    have : n + 1 = k → (cv ρ (lg ls n)).category = 1 := fun x => (noL_cat (by rw [e3 x, ← e2]; exact h3)).2
    by_cases hx : n + 1 = k
    · simp [e, this hx]
    · simp [e, hx]
theorem lv_set2 {ρ : Rho} {la : Array Slot} {nL : Nat} {ls : List AV} {k : Nat} {v : AV} (h : lv_has la nL ((k, cv ρ v) :: (lvp ρ 0 ls).filter (fun q => !(q.1 == k) && (!(q.1 == k + 1) && !(q.1 + 1 == k && q.2.category == 2))))) : lv_has la nL (lvp ρ 0 (ls2 ls k v)) := by
  refine lv_mono h (fun q hq => ?_)
  obtain ⟨n, h1, h2, h3⟩ := (lvp_mem ρ _ 0 q).mp hq
  rcases ls2_get ls k n v h3 with ⟨e, e2⟩ | ⟨e, e1, e2, e3⟩
  · rw [h2, e2, e]; simp
  · rw [h2, e2]
    refine List.mem_cons_of_mem _ (List.mem_filter.mpr ⟨(lvp_mem ρ ls 0 _).mpr ⟨n, lg_len (by rw [← e2]; exact h3), rfl, by rw [← e2]; exact h3⟩, ?_⟩)
    have : n + 1 = k → (cv ρ (lg ls n)).category = 1 := fun x => (noL_cat (by rw [e3 x, ← e2]; exact h3)).2
    by_cases hx : n + 1 = k
    · simp [e, e1, this hx]
    · simp [e, e1, hx]
