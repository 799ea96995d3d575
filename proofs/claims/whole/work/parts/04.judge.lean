/-! 04: the judgements of the abstract machine: Rn (a run from a place in a method), Ev (a call) -/
/-- the Strings of the system, by number: their objects ρ 63 n, their bytes ρ 64 n; two statics of the JDK -/
def SS1 (ρ : Rho) (A : Nat → Prop) (s : State) (H : Heap) (n : Nat) : Prop :=
  va_O "java/lang/String" (ρ 63 n) A s H ∧ va_OF "java/lang/String" "coder" "B" (.int 0) (ρ 63 n) A s H ∧ va_OF "java/lang/String" "value" "[B" (.ref (ρ 64 n)) (ρ 63 n) A s H ∧ va_T .byte (ρ 64 n) (sby n).length (fun j => .int (Int32.ofInt ((sby n).getD j 0))) A s H
def SS2 (ρ : Rho) (A : Nat → Prop) (s : State) (H : Heap) : Prop :=
  va_Z "java/lang/String" "COMPACT_STRINGS" "Z" (.int 1) A s H ∧ (va_Z "jdk/internal/util/Preconditions" "SIOOBE_FORMATTER" "Ljava/util/function/BiFunction;" .null A s H ∨ va_Z "jdk/internal/util/Preconditions" "SIOOBE_FORMATTER" "Ljava/util/function/BiFunction;" (.ref (ρ 66 0)) A s H)
def SS (ρ : Rho) (A : Nat → Prop) (s : State) : Prop :=
  (∀ n, n < NSTR → SS1 ρ A s s.heap n) ∧ (∀ e ∈ STT, vk_R (cnm e.1) e.2.1 (stx e.2.2) (ρ 63 e.2.2) s) ∧ SS2 ρ A s s.heap
theorem SS1.go {ρ : Rho} {A B : Nat → Prop} {s U : State} {H H1 : Heap} {n : Nat} (hv : s.vm.Alike U.vm) (hk : ∀ q : Nat, q < H.size → ¬ A q → H1[q]? = H[q]?) (hB : ∀ q, B q → A q) (h : SS1 ρ A s H n) : SS1 ρ B U H1 n :=
  ⟨((va_O.moved hv h.1).kept hk).narrow hB, ((va_OF.moved hv h.2.1).kept hk).narrow hB, ((va_OF.moved hv h.2.2.1).kept hk).narrow hB, ((va_T.moved hv h.2.2.2).kept hk).narrow hB⟩
theorem SS2.go {ρ : Rho} {A B : Nat → Prop} {s U : State} {H H1 : Heap} (hv : s.vm.Alike U.vm) (hk : ∀ q : Nat, q < H.size → ¬ A q → H1[q]? = H[q]?) (hB : ∀ q, B q → A q) (h : SS2 ρ A s H) : SS2 ρ B U H1 :=
  ⟨((va_Z.moved hv h.1).kept hk).narrow hB, h.2.imp (fun h => ((va_Z.moved hv h).kept hk).narrow hB) (fun h => ((va_Z.moved hv h).kept hk).narrow hB)⟩
theorem SS.same {ρ : Rho} {A : Nat → Prop} {s U : State} (hv : s.vm = U.vm) (hh : U.heap = s.heap) (h : SS ρ A s) : SS ρ A U := by
  have ha : s.vm.Alike U.vm := by rw [hv]; exact Vm.Alike.refl _
  have hk : ∀ q : Nat, q < s.heap.size → ¬ A q → U.heap[q]? = s.heap[q]? := fun q _ _ => by rw [hh]
  exact ⟨fun n hn => (h.1 n hn).go ha hk (fun _ h => h), fun e he => vk_R.same hv.symm (h.2.1 e he), h.2.2.go ha hk (fun _ h => h)⟩
theorem SS.go {ρ : Rho} {A B : Nat → Prop} {s U : State} (hW : s.WarmedH U.vm) (hk : ∀ q : Nat, q < s.heap.size → ¬ A q → U.heap[q]? = s.heap[q]?) (hB : ∀ q, B q → A q) (h : SS ρ A s) : SS ρ B U :=
  ⟨fun n hn => (h.1 n hn).go hW.alike hk hB, fun e he => vk_R.warm hW (h.2.1 e he), h.2.2.go hW.alike hk hB⟩
def ST (ρ : Rho) (A : Nat → Prop) (s : State) : Prop := (∀ e ∈ FLN, va_Nw (fln e) s) ∧ (∀ e ∈ MLN, va_Nw (Cond.methodLinkNest (cnm e.1) e.2.1 (mY e.2.2) "DebtBridge") s) ∧ SS ρ A s
theorem ST.same {ρ : Rho} {A : Nat → Prop} {s U : State} (hv : s.vm = U.vm) (hh : U.heap = s.heap) (h : ST ρ A s) : ST ρ A U := ⟨fun e he => va_Nw.same rfl hv (h.1 e he), fun e he => va_Nw.same rfl hv (h.2.1 e he), h.2.2.same hv hh⟩
theorem ST.go {ρ : Rho} {A B : Nat → Prop} {s U : State} (hW : s.WarmedH U.vm) (hk : ∀ q : Nat, q < s.heap.size → ¬ A q → U.heap[q]? = s.heap[q]?) (hB : ∀ q, B q → A q) (h : ST ρ A s) : ST ρ B U := ⟨fun e he => va_Nw.warmF hW (h.1 e he), fun e he => va_Nw.warmM hW (h.2.1 e he), h.2.2.go hW hk hB⟩
abbrev rmd (d : Nat) : Room := { frames := d, cells := 0, slots := 0, locals := 64 * d }
def Cx (j : Nat) (p : Program) (s : State) (m : MethodId) (args : Array Value) (meth : Method) (c : Code) (D : va_G) (dA : Nat → ClassId) (ρ : Rho) (A : Nat → Prop) : Prop :=
  p.tables.exec = Jvm.exec ∧ c.code = mB j ∧ meth.sig.returnType = mR j ∧ c.maxLocals = mL j ∧ (∀ w ∈ tbg, w.before args s = true) ∧ s.vm.findClass (cnm (mC j)) = some m.cls ∧ meth.locks = false ∧ va_K D vwCl (tys dA) s ∧ (∀ q, s.heap.size ≤ q → A q) ∧ ST ρ A s
def QK (D : va_G) (dA : Nat → ClassId) (ρ : Rho) (A : Nat → Prop) (K : Option AV → Mem → Prop) : Array Value → State → Outcome → State → Prop := fun _ st o t =>
  (∃ (r : Option AV) (σ' : Mem), o = .returned (r.map (cv ρ)) ∧ K r σ' ∧ va_P D vwCl (wld dA ρ σ') t.heap ∧ va_K D vwCl (tys dA) t ∧ va_D A (wld dA ρ σ')) ∧ va_F A st t
abbrev XR : Type := Room × Nat × Nat
abbrev YQ : Type := List Frame → Array Value → State → va_G → (Nat → ClassId) → Rho → (Nat → Prop) → State → Prop
/-- a run from a place, to any end -/
def RnG (d : XR) (j pc : Nat) (ls st : List AV) (σ : Mem) (K : YQ) : Prop :=
  ∀ (p : Program) (l : Launch) (e : Env) (s : State) (m : MethodId) (args : Array Value) (below : List Frame) (meth : Method) (c : Code) (D : va_G) (dA : Nat → ClassId) (ρ : Rho) (A : Nat → Prop) (H : Heap) (locs : List Loc) (la : Array Slot),
    Cx j p s m args meth c D dA ρ A → lv_has la (mL j) (lvp ρ 0 ls) → va_P D vwCl (wld dA ρ σ) H → va_D A (wld dA ρ σ) → va_S A s.heap H locs →
    W p l e d.1 s m args below meth c H locs d.2.1 d.2.2 (K below args s D dA ρ A) (F0 m pc la (st.map (cv ρ)))
abbrev QF (K : Option AV → Mem → Prop) : YQ := fun below args s D dA ρ A => MQ below (QK D dA ρ A K) args s 0 0 A
abbrev Rn (d j pc : Nat) (ls st : List AV) (σ : Mem) (K : Option AV → Mem → Prop) : Prop := RnG (rmd d, 0, 0) j pc ls st σ (QF K)
def Ev (d j : Nat) (av : List AV) (σ : Mem) (K : Option AV → Mem → Prop) : Prop :=
  ∀ (l : Launch) (D : va_G) (dA : Nat → ClassId) (ρ : Rho) (sz : Nat), Met l (mY j) (Cond.code (mY j) (mB j) (mL j) (mR j) :: tbg) (rmd d)
    (va_Pc (av.map (cv ρ)) (fun U => U.heap.size = sz ∧ va_P D vwCl (wld dA ρ σ) U.heap ∧ va_K D vwCl (tys dA) U ∧ va_D (fun _ => True) (wld dA ρ σ) ∧ ST ρ (va_A (wld dA ρ σ) sz) U))
    (QK D dA ρ (va_A (wld dA ρ σ) sz) K) 0 0 (va_A (wld dA ρ σ) sz)
theorem QK.mono {D : va_G} {dA : Nat → ClassId} {ρ : Rho} {A : Nat → Prop} {K K2 : Option AV → Mem → Prop} {a : Array Value} {st t : State} {o : Outcome} (h : QK D dA ρ A K a st o t) (hk : ∀ r σ, K r σ → K2 r σ) : QK D dA ρ A K2 a st o t := by
  obtain ⟨⟨r, σ', h1, h2, h3⟩, h4⟩ := h
  exact ⟨⟨r, σ', h1, hk _ _ h2, h3⟩, h4⟩
/-! the entry of a method -/
def isL (v : AV) : Bool := match v with
  | .inr (.inl _) => true
  | _ => false
def entL : List AV → List AV
  | [] => []
  | v :: r => if isL v then v :: .inr (.inr none) :: entL r else v :: entL r
def ent (n : Nat) (av : List AV) : List AV := entL av ++ List.replicate (n - (entL av).length) (.inr (.inr none))
theorem isL_cat {ρ : Rho} {v : AV} : (cv ρ v).category = if isL v then 2 else 1 := by
  rcases v with z | z | _ | q <;> rfl
theorem lg_app : ∀ (a b : List AV) (n : Nat), isN (lg (a ++ b) n) = false → (n < a.length ∧ lg (a ++ b) n = lg a n) ∨ (a.length ≤ n ∧ lg (a ++ b) n = lg b (n - a.length)) := by
  intro a
  induction a with
  | nil => intro b n h; exact Or.inr ⟨by simp, by simp⟩
  | cons x a ih =>
    intro b n h
    cases n with
    | zero => exact Or.inl ⟨by simp, rfl⟩
    | succ n =>
      simp only [List.cons_append, lg] at h ⊢
      rcases ih b n h with ⟨h1, h2⟩ | ⟨h1, h2⟩
      · exact Or.inl ⟨by simp; omega, h2⟩
      · exact Or.inr ⟨by simp; omega, by rw [h2]; simp⟩
theorem lg_rep : ∀ (n k : Nat), lg (List.replicate n (.inr (.inr none))) k = .inr (.inr none) := by
  intro n
  induction n with
  | zero => intro k; rfl
  | succ n ih => intro k; cases k with
    | zero => rfl
    | succ k => exact ih k
theorem ent_args {ρ : Rho} : ∀ (av : List AV) (i : Nat) (n : Nat), isN (lg (entL av) n) = false → (i + n, cv ρ (lg (entL av) n)) ∈ lv_args i (av.map (cv ρ)) := by
  intro av
  induction av with
  | nil => intro i n h; simp [entL, lg, isN, vN] at h
  | cons v r ih =>
    intro i n h
    simp only [List.map_cons, lv_args, isL_cat]
    by_cases hv : isL v = true
    · simp only [entL, if_pos hv] at h ⊢
      cases n with
      | zero => simp [lg]
      | succ n =>
        cases n with
        | zero => simp [lg, isN] at h
        | succ n =>
          have := ih (i + 2) n h
          refine List.mem_cons_of_mem _ ?_
          simp only [lg, if_pos]
          rw [show i + (n + 1 + 1) = i + 2 + n by omega]
          exact this
    · simp only [entL, if_neg hv] at h ⊢
      cases n with
      | zero => simp [lg]
      | succ n =>
        have := ih (i + 1) n h
        refine List.mem_cons_of_mem _ ?_
        simp only [lg, if_neg (show ¬ (1 : Nat) = 2 by decide)]
        rw [show i + (n + 1) = i + 1 + n by omega]
        exact this
theorem entL_len {ρ : Rho} : ∀ (av : List AV), (lg_sl (av.map (cv ρ))).length = (entL av).length := by
  intro av
  induction av with
  | nil => rfl
  | cons v r ih =>
    simp only [List.map_cons, lg_sl, List.flatMap_cons, isL_cat, List.length_append]
    rw [show (List.flatMap (fun v => if v.category = 2 then [Slot.val v, Slot.second] else [Slot.val v]) (List.map (cv ρ) r)).length = (entL r).length from ih]
    by_cases hv : isL v = true
    · simp [entL, hv]; omega
    · simp [entL, hv]; omega
theorem mcode_in {j : Nat} (hj : j < 315) : Cond.code (mY j) (mB j) (mL j) (mR j) ∈ tbg := by
  have h : mtab[j]? = some (mtab[j]'(by have : mtab.length = 315 := by decide +kernel
                                        omega)) := List.getElem?_eq_getElem _
  have h2 : mtab.getD j mt0 = mtab[j]'(by have : mtab.length = 315 := by decide +kernel
                                          omega) := by rw [List.getD_eq_getElem?_getD, h]; rfl
  have h3 := mcs_0 (mtab.getD j mt0) (by rw [h2]; exact List.getElem_mem _)
  exact h3
theorem mok {j : Nat} (hj : j < 315) : mOk j = true := List.all_eq_true.mp m_ok j (List.mem_range.mpr hj)
theorem good_tbg (y : Nat) (hy : y < 315) : GoodIn tbg (Cond.code (mY y) (mB y) (mL y) (mR y) :: tbg) := by
  intro w hw
  have h : w ∈ tbg := by
    rcases List.mem_cons.mp hw with rfl | h
    · exact mcode_in hy
    · exact h
  exact ⟨h, good_of_word (List.mem_filter.mp h).2⟩
theorem mok_spec {j : Nat} (hj : j < 315) : plainName (mY j).cls = true ∧ (mY j).cls = cnm (mC j) ∧ ((mY j).cls ≠ "java/lang/invoke/MethodHandle" ∧ (mY j).cls ≠ "java/lang/invoke/VarHandle" ∧ (parseMethodDescriptor (mY j).desc).map (fun d => d.parameters.length) = some (mP j)) ∧ mL j ≤ 40 ∧ Cond.initialized (mY j).cls ∈ tbg ∧ (mS j = true → Cond.static (mY j) ∈ tbg) ∧ (mS j = false → Cond.instanceMethod (mY j) ∈ tbg ∧ Cond.selects (mY j).cls (mY j) (mY j) ∈ tbg) := by
  have h := mok hj
  simp only [mOk, Bool.and_eq_true, decide_eq_true_eq, beq_iff_eq, bne_iff_ne, ne_eq, List.contains_eq_mem] at h
  obtain ⟨⟨⟨⟨⟨⟨⟨h1, h2⟩, h3⟩, h4⟩, h5⟩, h6⟩, h7⟩, h8⟩ := h
  refine ⟨h1, h2, ⟨h3, h4, h5⟩, h6, ?_, ?_, ?_⟩
  · rw [h2]
    exact mn_in _ (List.mem_map.mpr ⟨mC j, h7, rfl⟩)
  · intro hs
    rw [if_pos hs] at h8
    exact mt_in _ (List.mem_map.mpr ⟨j, by simpa using h8, rfl⟩)
  · intro hs
    rw [if_neg (by rw [hs]; decide)] at h8
    simp only [Bool.and_eq_true, decide_eq_true_eq] at h8
    exact ⟨mi_in _ (List.mem_map.mpr ⟨j, h8.1, rfl⟩), ms_in _ (List.mem_map.mpr ⟨j, h8.2, rfl⟩)⟩
theorem Ev.enter {d j n : Nat} {av : List AV} {σ : Mem} {K : Option AV → Mem → Prop} (hj : j < 315) (hn : mL j = n) (hl : (entL av).length ≤ n) (h : Rn d j 0 (ent n av) [] σ K) : Ev d j av σ K := by
  intro l D dA ρ sz
  refine Met.ofW (cc := mB j) (maxL := mL j) (ret := mR j) (mok_spec hj).1 rfl ?_
  intro p e s m args below meth c s₁ B hml hv
  obtain ⟨rfl, hsz, hP, hK, hD0, hT⟩ := hv
  subst hsz
  have hts := atoms_spec (ws := Cond.code (mY j) (mB j) (mL j) (mR j) :: tbg) B.pre
  have hown : s.vm.findClass (mY j).cls = some m.cls := findClass_of_methodNamed B.named
  have hle := lv_entry (av.map (cv ρ)) (n := mL j) (by rw [entL_len, hn]; exact hl)
  rw [lg_entry_eq]
  refine h p l e s m _ below meth c D dA ρ (va_A (wld dA ρ σ) s.heap.size) s.heap [] _ ⟨B.exec, B.bytes, B.returns, hml, fun w hw => hts w (List.mem_cons_of_mem _ hw), by rw [← (mok_spec hj).2.1]; exact hown, B.notSynchronized, hK, fun q hq => Or.inr hq, hT⟩ (lv_mono hle ?_) hP hD0.self va_S.rf
  intro q hq
  obtain ⟨k, h1, h2, h3⟩ := (lvp_mem ρ _ 0 q).mp hq
  rw [h2]
  unfold ent at h3 ⊢
  rcases lg_app _ _ _ h3 with ⟨g1, g2⟩ | ⟨g1, g2⟩
  · rw [g2] at h3 ⊢
    exact ent_args av 0 k h3
  · rw [g2, lg_rep] at h3
    simp [isN] at h3
theorem Rn.mono {d j pc : Nat} {ls st : List AV} {σ : Mem} {K K2 : Option AV → Mem → Prop} (h : Rn d j pc ls st σ K) (hk : ∀ r σ, K r σ → K2 r σ) : Rn d j pc ls st σ K2 := by
  intro p l e s m args below meth c D dA ρ A H locs la C hl hP hD hS T hT X
  obtain ⟨t, a, o, b1, b2, b3, b4⟩ := h p l e s m args below meth c D dA ρ A H locs la C hl hP hD hS T hT X
  exact ⟨t, a, o, b1, b2, b3.mono hk, b4⟩
