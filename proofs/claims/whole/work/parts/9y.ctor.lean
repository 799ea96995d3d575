/-! 9y: constructors: tables, an interpreter over told cells (tables by wip/whole/ctor.py) -/
/-- constructors, by their class: name, code, locals, parameters -/
def cYL : List (MethodName × ByteArray × Nat × Nat) := [(yX0_init, cX0_init, 2, 1), (yX1_init, cX1_init, 2, 1), (yX2_init, cX2_init, 2, 0), (yX3_init, cX3_init, 1, 0), (yX4_init, cX4_init, 2, 1), (yX5_init, cX5_init, 1, 0), (yX6_init, cX6_init, 2, 1), (yX7_init, cX7_init, 1, 0), (yX8_init, cX8_init, 1, 0), (yX9_init, cX9_init, 3, 2), (yX10_init, cX10_init, 1, 0), (yX11_init, cX11_init, 2, 0), (yX12_init, cX12_init, 1, 0)]
def cY (k : Nat) := (cYL.getD k (yX0_init, ⟨#[]⟩, 0, 0)).1
def cB (k : Nat) := (cYL.getD k (yX0_init, ⟨#[]⟩, 0, 0)).2.1
def cL (k : Nat) := (cYL.getD k (yX0_init, ⟨#[]⟩, 0, 0)).2.2.1
def cP (k : Nat) := (cYL.getD k (yX0_init, ⟨#[]⟩, 0, 0)).2.2.2
theorem cc_0 : Cond.code (cY 0) (cB 0) (cL 0) none ∈ tbg := tbg_mk (tb_2 (List.mem_of_getElem? (i := 4) rfl)) rfl
theorem cc_1 : Cond.code (cY 1) (cB 1) (cL 1) none ∈ tbg := tbg_mk (tb_2 (List.mem_of_getElem? (i := 68) rfl)) rfl
theorem cc_2 : Cond.code (cY 2) (cB 2) (cL 2) none ∈ tbg := tbg_mk (tb_2 (List.mem_of_getElem? (i := 22) rfl)) rfl
theorem cc_3 : Cond.code (cY 3) (cB 3) (cL 3) none ∈ tbg := tbg_mk (tb_1 (List.mem_of_getElem? (i := 41) rfl)) rfl
theorem cc_4 : Cond.code (cY 4) (cB 4) (cL 4) none ∈ tbg := tbg_mk (tb_1 (List.mem_of_getElem? (i := 35) rfl)) rfl
theorem cc_5 : Cond.code (cY 5) (cB 5) (cL 5) none ∈ tbg := tbg_mk (tb_1 (List.mem_of_getElem? (i := 203) rfl)) rfl
theorem cc_6 : Cond.code (cY 6) (cB 6) (cL 6) none ∈ tbg := tbg_mk (tb_2 (List.mem_of_getElem? (i := 42) rfl)) rfl
theorem cc_7 : Cond.code (cY 7) (cB 7) (cL 7) none ∈ tbg := tbg_mk (tb_1 (List.mem_of_getElem? (i := 154) rfl)) rfl
theorem cc_8 : Cond.code (cY 8) (cB 8) (cL 8) none ∈ tbg := tbg_mk (tb_2 (List.mem_of_getElem? (i := 139) rfl)) rfl
theorem cc_9 : Cond.code (cY 9) (cB 9) (cL 9) none ∈ tbg := tbg_mk (tb_2 (List.mem_of_getElem? (i := 103) rfl)) rfl
theorem cc_10 : Cond.code (cY 10) (cB 10) (cL 10) none ∈ tbg := tbg_mk (tb_1 (List.mem_of_getElem? (i := 148) rfl)) rfl
theorem cc_11 : Cond.code (cY 11) (cB 11) (cL 11) none ∈ tbg := tbg_mk (tb_1 (List.mem_of_getElem? (i := 27) rfl)) rfl
theorem cc_12 : Cond.code (cY 12) (cB 12) (cL 12) none ∈ tbg := tbg_mk (tb_6 (List.mem_of_getElem? (i := 120) rfl)) rfl
theorem cc_in {k : Nat} (h : k < 13) : Cond.code (cY k) (cB k) (cL k) none ∈ tbg := by
  rcases k with _ | _ | _ | _ | _ | _ | _ | _ | _ | _ | _ | _ | _ | n
  · exact cc_0
  · exact cc_1
  · exact cc_2
  · exact cc_3
  · exact cc_4
  · exact cc_5
  · exact cc_6
  · exact cc_7
  · exact cc_8
  · exact cc_9
  · exact cc_10
  · exact cc_11
  · exact cc_12
  · omega
def CIM : List (Nat) := [11, 4, 3, 10, 7, 5, 0, 2, 6, 1, 9, 8, 12]
set_option maxRecDepth 100000 in
theorem CIM_in : ∀ w ∈ CIM.map (fun e => Cond.instanceMethod (cY e)), w ∈ tbg := tbg_sub _ (by decide +kernel) (by decide +kernel)
def CIN : List (Nat) := [11, 4, 3, 10, 7, 5, 0, 2, 6, 1, 9, 8, 12]
set_option maxRecDepth 100000 in
theorem CIN_in : ∀ w ∈ CIN.map (fun e => Cond.initialized (cnm e)), w ∈ tbg := tbg_sub _ (by decide +kernel) (by decide +kernel)
def CIS : List (Nat) := [11, 4, 3, 10, 7, 5, 0, 2, 6, 1, 9, 8, 12]
set_option maxRecDepth 100000 in
theorem CIS_in : ∀ w ∈ CIS.map (fun e => Cond.instantiable (cnm e) (nX e)), w ∈ tbg := tbg_sub _ (by decide +kernel) (by decide +kernel)
def CMT : List (Nat × Nat × Nat) := [(19, 9, 11), (11, 15, 4), (11, 34, 0), (11, 46, 2), (11, 53, 6), (11, 60, 1), (11, 67, 9), (19, 12, 12)]
set_option maxRecDepth 100000 in
theorem CMT_in : ∀ w ∈ CMT.map (fun e => Cond.methodLink (cnm e.1) e.2.1 (cY e.2.2)), w ∈ tbg := tbg_sub _ (by decide +kernel) (by decide +kernel)
def OIT : List (Nat × Nat) := [(11, 3), (4, 3), (3, 3), (10, 3), (7, 3), (5, 3), (0, 3), (2, 3), (6, 3), (1, 3), (9, 3), (8, 3), (12, 7)]
set_option maxRecDepth 100000 in
theorem OIT_in : ∀ w ∈ OIT.map (fun e => Cond.methodLink (cnm e.1) e.2 Lib.objectInit), w ∈ tbg := tbg_sub _ (by decide +kernel) (by decide +kernel)
def CLT : List (Nat × Nat × Nat) := [(19, 7, 11), (11, 13, 4), (4, 38, 3), (11, 22, 10), (10, 9, 7), (10, 18, 5), (10, 29, 3), (11, 32, 0), (11, 44, 2), (2, 11, 7), (11, 51, 6), (11, 58, 1), (11, 65, 9), (11, 74, 8), (19, 10, 12)]
set_option maxRecDepth 100000 in
theorem CLT_in : ∀ w ∈ CLT.map (fun e => Cond.classLink (cnm e.1) e.2.1 (cnm e.2.2)), w ∈ tbg := tbg_sub _ (by decide +kernel) (by decide +kernel)
def CMN : List (Nat × Nat × Nat) := [(4, 40, 3), (11, 24, 10), (10, 11, 7), (10, 20, 5), (10, 31, 3), (2, 24, 7), (11, 92, 8)]
set_option maxRecDepth 100000 in
theorem CMN_in : ∀ w ∈ CMN.map (fun e => Cond.methodLinkNest (cnm e.1) e.2.1 (cY e.2.2) "DebtBridge"), w ∈ lw_tbl := subl_in _ _ (by decide +kernel)
def cMc (k : Nat) : Nat := [0, 4, 45, 5, 7, 2, 4, 3, 1, 2, 14, 141, 15].getD k 0
def cMs (k : Nat) : Nat := [0, 82, 638, 50, 960, 73, 26, 50, 40, 210, 198, 3851, 8475].getD k 0
def dfC (k : Nat) : List AV := (fds k).map (fun f => if f.1 = 1 then .inr (.inl 0) else if f.1 < 3 then .inl 0 else .inr (.inr none))
abbrev CE : Type := (Nat × List AV) ⊕ (Nat × Nat × List (Nat × AV))
abbrev rA (α : Nat → Nat) : Rho := fun _ i => α i
def wI : List (Nat × AV) → Nat → Int
  | [], _ => 0
  | q :: r, j => if j = q.1 then (match q.2 with
    | .inl z => z
    | .inr (.inl z) => z
    | _ => 0) else wI r j
def wR (α : Nat → Nat) : List (Nat × AV) → Nat → Option Nat
  | [], _ => none
  | q :: r, j => if j = q.1 then (match q.2 with
    | .inr (.inr (some x)) => some (α x.2)
    | _ => none) else wR α r j
def acC (α : Nat → Nat) (t : Nat) (w : List (Nat × AV)) : (Nat → Int32) ⊕ (Nat → Int64) ⊕ (Nat → UInt32) ⊕ (Nat → UInt64) ⊕ (Nat → Option Nat) :=
  if t = 3 then .inr (.inl (fun j => Int64.ofInt (wI w j))) else if t < 3 then .inl (fun j => Int32.ofInt (wI w j)) else .inr (.inr (.inr (.inr (wR α w))))
def celC (dA : Nat → ClassId) (α : Nat → Nat) (c : CE) : va_E := match c with
  | .inl o => .inr (o.1, o.2.map (cv (rA α)))
  | .inr a => .inl (dA a.1, a.2.1, acC α a.1 a.2.2)
def wrl (dA : Nat → ClassId) (α : Nat → Nat) (cs : List CE) : va_W := cs.mapIdx (fun i c => (α i, celC dA α c))
def wfA (n : Nat) (v : AV) : Bool := match v with
  | .inr (.inr (some q)) => decide (q.2 < n)
  | _ => true
def wfE (n : Nat) (c : CE) : Bool := match c with
  | .inl o => o.2.all (wfA n)
  | .inr a => a.2.2.all (fun q => wfA n q.2)
theorem cv_wf {α α' : Nat → Nat} {n : Nat} {v : AV} (h : wfA n v = true) (ha : ∀ i, i < n → α' i = α i) : cv (rA α') v = cv (rA α) v := by
  rcases v with z | z | _ | q
  · rfl
  · rfl
  · rfl
  · show Value.ref (α' q.2) = Value.ref (α q.2)
    rw [ha q.2 (of_decide_eq_true h)]
theorem map_wf {α α' : Nat → Nat} {n : Nat} {l : List AV} (h : l.all (wfA n) = true) (ha : ∀ i, i < n → α' i = α i) : l.map (cv (rA α')) = l.map (cv (rA α)) :=
  List.map_congr_left (fun v hv => cv_wf (List.all_eq_true.mp h v hv) ha)
theorem wR_wf {α α' : Nat → Nat} {n : Nat} : ∀ {w : List (Nat × AV)}, w.all (fun q => wfA n q.2) = true → (∀ i, i < n → α' i = α i) → wR α' w = wR α w := by
  intro w
  induction w with
  | nil => intro _ _; rfl
  | cons q r ih =>
    intro h ha
    simp only [List.all_cons, Bool.and_eq_true] at h
    funext j
    unfold wR
    rw [ih h.2 ha]
    split
    · have h1 := h.1
      rcases hq : q.2 with z | z | _ | x
      · rfl
      · rfl
      · rfl
      · rw [hq] at h1
        show some (α' x.2) = some (α x.2)
        rw [ha x.2 (of_decide_eq_true h1)]
    · rfl
theorem celC_wf {dA : Nat → ClassId} {α α' : Nat → Nat} {n : Nat} {c : CE} (h : wfE n c = true) (ha : ∀ i, i < n → α' i = α i) : celC dA α' c = celC dA α c := by
  rcases c with o | a
  · show (Sum.inr (o.1, o.2.map (cv (rA α'))) : va_E) = .inr (o.1, o.2.map (cv (rA α)))
    rw [map_wf h ha]
  · show (Sum.inl (dA a.1, a.2.1, acC α' a.1 a.2.2) : va_E) = .inl (dA a.1, a.2.1, acC α a.1 a.2.2)
    have : acC α' a.1 a.2.2 = acC α a.1 a.2.2 := by
      unfold acC
      rw [wR_wf h ha]
    rw [this]
def upA (α : Nat → Nat) (n q : Nat) : Nat → Nat := fun i => if i = n then q else α i
theorem wrl_at {dA : Nat → ClassId} {α : Nat → Nat} {cs : List CE} {i : Nat} {c : CE} (h : cs[i]? = some c) : (wrl dA α cs)[i]? = some (α i, celC dA α c) := by
  unfold wrl
  rw [List.getElem?_mapIdx, h]
  rfl
theorem wrl_set {dA : Nat → ClassId} {α : Nat → Nat} {cs : List CE} {i : Nat} {c : CE} : (wrl dA α cs).set i (α i, celC dA α c) = wrl dA α (cs.set i c) := by
  apply List.ext_getElem?
  intro n
  unfold wrl
  rw [List.getElem?_set, List.getElem?_mapIdx, List.getElem?_mapIdx, List.getElem?_set, List.length_mapIdx]
  by_cases h : i = n
  · subst h
    rw [if_pos rfl, if_pos rfl]
    split <;> rfl
  · rw [if_neg h, if_neg h]
theorem wrl_app {dA : Nat → ClassId} {α : Nat → Nat} {cs : List CE} {c : CE} {q : Nat} (h : cs.all (wfE cs.length) = true) : wrl dA (upA α cs.length q) (cs ++ [c]) = wrl dA α cs ++ [(q, celC dA (upA α cs.length q) c)] := by
  have ha : ∀ i, i < cs.length → upA α cs.length q i = α i := fun i hi => by unfold upA; rw [if_neg (by omega)]
  apply List.ext_getElem?
  intro n
  unfold wrl
  rw [List.getElem?_mapIdx]
  by_cases hn : n < cs.length
  · rw [List.getElem?_append_left hn, List.getElem?_append_left (by rw [List.length_mapIdx]; exact hn), List.getElem?_mapIdx, List.getElem?_eq_getElem hn]
    show some (upA α cs.length q n, celC dA (upA α cs.length q) cs[n]) = some (α n, celC dA α cs[n])
    rw [ha n hn, celC_wf (List.all_eq_true.mp h _ (List.getElem_mem hn)) ha]
  · rw [List.getElem?_append_right (by omega), List.getElem?_append_right (by rw [List.length_mapIdx]; omega), List.length_mapIdx]
    by_cases e : n = cs.length
    · subst e
      rw [Nat.sub_self]
      show some (upA α cs.length q cs.length, celC dA (upA α cs.length q) c) = some (q, celC dA (upA α cs.length q) c)
      unfold upA
      rw [if_pos rfl]
    · obtain ⟨k, hk⟩ : ∃ k, n - cs.length = k + 1 := ⟨n - cs.length - 1, by omega⟩
      rw [hk]
      rfl
theorem lvp_wf {α α' : Nat → Nat} {n : Nat} (ha : ∀ i, i < n → α' i = α i) : ∀ (ls : List AV) (k : Nat), ls.all (wfA n) = true → lvp (rA α') k ls = lvp (rA α) k ls := by
  intro ls
  induction ls with
  | nil => intro k _; rfl
  | cons v r ih =>
    intro k h
    simp only [List.all_cons, Bool.and_eq_true] at h
    unfold lvp
    rw [ih (k + 1) h.2, cv_wf h.1 ha]
def atg (t : ArrayType) : Nat := match t with
  | .byte => 1
  | .boolean => 2
  | .long => 3
  | .int => 0
  | _ => 9
def otg (k : Nat) : Nat := if k = 8 then 4 else if k = 10 then 5 else if k = 7 then 6 else 9
def okp (f : Nat) (v : AV) : Bool := match v with
  | .inl z => f == 0 || (f == 2 && (decide (z = 0) || decide (z = 1)))
  | .inr (.inl _) => f == 1
  | .inr (.inr (some _)) => f == 3 || f == 4
  | _ => false
def tkO : Nat → List AV → List AV → Option (List AV × List AV)
  | 0, st, acc => some (acc, st)
  | _ + 1, [], _ => none
  | n + 1, v :: st, acc => tkO n st (v :: acc)
def wfS (ls st : List AV) (cs : List CE) : Bool := cs.all (wfE cs.length) && ls.all (wfA cs.length) && st.all (wfA cs.length)
def cst {β : Type} (LC LS : Nat) (nx : Nat → List AV → List AV → List CE → Nat → Nat → Option β) (rt : List CE → Nat → Nat → Option β) (cl : Nat → List AV → List CE → Option (List CE)) (j : Nat) (i : Instr) (len pc : Nat) (ls st : List AV) (cs : List CE) (nc ns : Nat) : Option β := match i with
  | .aload_n k => match lg ls k with
    | .inr (.inr (some q)) => if len = 1 then nx (pc + 1) ls (.inr (.inr (some q)) :: st) cs nc ns else none
    | _ => none
  | .iload_n k => match lg ls k with
    | .inl z => if len = 1 then nx (pc + 1) ls (.inl z :: st) cs nc ns else none
    | _ => none
  | .istore_n k => match st with
    | .inl z :: r => if len = 1 ∧ (k : Nat) < cL j then nx (pc + 1) (ls1 ls k (.inl z)) r cs nc ns else none
    | _ => none
  | .iinc k v => match lg ls k with
    | .inl z => if len = 3 ∧ k < cL j then nx (pc + 3) (ls1 ls k (.inl (z + v))) st cs nc ns else none
    | _ => none
  | .iconst v => if len = 1 then nx (pc + 1) ls (.inl v :: st) cs nc ns else none
  | .bipush v => if len = 2 ∧ -128 ≤ v ∧ v ≤ 127 then nx (pc + 2) ls (.inl v :: st) cs nc ns else none
  | .sipush v => if len = 3 ∧ -32768 ≤ v ∧ v ≤ 32767 then nx (pc + 3) ls (.inl v :: st) cs nc ns else none
  | .lconst v => if len = 1 then nx (pc + 1) ls (.inr (.inl ((v : Nat) : Int)) :: st) cs nc ns else none
  | .dup => match st with
    | a :: r => if len = 1 ∧ isL a = false then nx (pc + 1) ls (a :: a :: r) cs nc ns else none
    | [] => none
  | .goto o => if len = 3 ∧ 0 ≤ (pc : Int) + o then nx ((pc : Int) + o).toNat ls st cs nc ns else none
  | .if_icmp .ge o => match st with
    | .inl b :: .inl a :: r => if len = 3 ∧ 0 ≤ (pc : Int) + o ∧ -1000 ≤ a ∧ a ≤ 1000 ∧ -1000 ≤ b ∧ b ≤ 1000 then (if b ≤ a then nx ((pc : Int) + o).toNat ls r cs nc ns else nx (pc + 3) ls r cs nc ns) else none
    | _ => none
  | .new x => match CLT.find? (fun e => e.1 == j && e.2.1 == x) with
    | some e => if len = 3 ∧ nc + 1 ≤ LC ∧ ns + nX e.2.2 ≤ LS ∧ e.2.2 < 13 ∧ wfS ls st cs = true then nx (pc + 3) ls (.inr (.inr (some (70, cs.length))) :: st) (cs ++ [.inl (e.2.2, dfC e.2.2)]) (nc + 1) (ns + nX e.2.2) else none
    | none => none
  | .newarray t => match st with
    | .inl z :: r => if len = 2 ∧ 0 ≤ z ∧ z ≤ 5000 ∧ atg t < 4 ∧ nc + 1 ≤ LC ∧ ns + z.toNat ≤ LS ∧ wfS ls r cs = true then nx (pc + 2) ls (.inr (.inr (some (70, cs.length))) :: r) (cs ++ [.inr (atg t, z.toNat, [])]) (nc + 1) (ns + z.toNat) else none
    | _ => none
  | .anewarray x => match st with
    | .inl z :: r => (match CLT.find? (fun e => e.1 == j && e.2.1 == x) with
      | some e => if len = 3 ∧ 0 ≤ z ∧ z ≤ 5000 ∧ (e.2.2 = 7 ∨ e.2.2 = 8 ∨ e.2.2 = 10) ∧ nc + 1 ≤ LC ∧ ns + z.toNat ≤ LS ∧ wfS ls r cs = true then nx (pc + 3) ls (.inr (.inr (some (70, cs.length))) :: r) (cs ++ [.inr (otg e.2.2, z.toNat, [])]) (nc + 1) (ns + z.toNat) else none
      | none => none)
    | _ => none
  | .getfield x => match st with
    | .inr (.inr (some q)) :: r => (match FLT.find? (fun e => e.1 == j && e.2.1 == x) with
      | some e => (match cs[q.2]? with
        | some (.inl o) => if len = 3 ∧ o.1 = e.2.2.1 ∧ e.2.2.1 < 13 ∧ e.2.2.2 < nX e.2.2.1 then (match o.2[e.2.2.2]? with
          | some v => nx (pc + 3) ls (v :: r) cs nc ns
          | none => none) else none
        | _ => none)
      | none => none)
    | _ => none
  | .putfield x => match st with
    | v :: .inr (.inr (some q)) :: r => (match FLT.find? (fun e => e.1 == j && e.2.1 == x) with
      | some e => (match cs[q.2]? with
        | some (.inl o) => (match (fds e.2.2.1)[e.2.2.2]? with
          | some fd => if len = 3 ∧ o.1 = e.2.2.1 ∧ e.2.2.1 < 13 ∧ e.2.2.2 < o.2.length ∧ e.2.2.1 = j ∧ okp fd.1 v = true then nx (pc + 3) ls r (cs.set q.2 (.inl (o.1, o.2.set e.2.2.2 v))) nc ns else none
          | none => none)
        | _ => none)
      | none => none)
    | _ => none
  | .iastore => match st with
    | .inl v :: .inl z :: .inr (.inr (some q)) :: r => (match cs[q.2]? with
      | some (.inr a) => if len = 1 ∧ a.1 = 0 ∧ 0 ≤ z ∧ z < (a.2.1 : Int) ∧ z ≤ 5000 then nx (pc + 1) ls r (cs.set q.2 (.inr (a.1, a.2.1, (z.toNat, .inl v) :: a.2.2))) nc ns else none
      | _ => none)
    | _ => none
  | .aastore => match st with
    | .inr (.inr (some v)) :: .inl z :: .inr (.inr (some q)) :: r => (match cs[q.2]? with
      | some (.inr a) => (match cs[v.2]? with
        | some (.inl o) => if len = 1 ∧ a.1 = otg o.1 ∧ (o.1 = 7 ∨ o.1 = 8 ∨ o.1 = 10) ∧ 0 ≤ z ∧ z < (a.2.1 : Int) ∧ z ≤ 5000 then nx (pc + 1) ls r (cs.set q.2 (.inr (a.1, a.2.1, (z.toNat, .inr (.inr (some v))) :: a.2.2))) nc ns else none
        | _ => none)
      | _ => none)
    | _ => none
  | .invokespecial x => if OIT.contains (j, x) then (match st with
      | .inr (.inr (some _)) :: r => if len = 3 ∧ r.length ≤ 4 then nx (pc + 3) ls r cs nc ns else none
      | _ => none)
    else (match (CMT ++ CMN).find? (fun e => e.1 == j && e.2.1 == x) with
      | some e => (match tkO (cP e.2.2) st [] with
        | some (av, .inr (.inr (some q)) :: r) => if len = 3 ∧ e.2.2 < 13 ∧ av.length = cP e.2.2 ∧ wfS ls st cs = true ∧ r.length ≤ 4 ∧ nc + cMc e.2.2 ≤ LC ∧ ns + cMs e.2.2 ≤ LS then (match cl e.2.2 (.inr (.inr (some q)) :: av) cs with
          | some cs2 => if cs.length ≤ cs2.length then nx (pc + 3) ls r cs2 (nc + cMc e.2.2) (ns + cMs e.2.2) else none
          | none => none) else none
        | _ => none)
      | none => none)
  | .return_ => match st with
    | [] => if len = 1 then rt cs nc ns else none
    | _ => none
  | _ => none
def exC : Nat → Nat → Nat → Nat → List AV → List AV → List CE → Nat → Nat → Option (List CE)
  | 0, _, _, _, _, _, _, _, _ => none
  | n + 1, dd, j, pc, ls, st, cs, nc, ns => match decode (cB j) pc with
    | .ok (i, len) => cst (cMc j) (cMs j) (fun pc ls st cs nc ns => exC n dd j pc ls st cs nc ns) (fun cs nc ns => if nc = cMc j ∧ ns = cMs j then some cs else none)
      (fun k av cs => match dd with
        | 0 => none
        | dd + 1 => if (entL av).length ≤ cL k then exC n dd k 0 (ent (cL k) av) [] cs 0 0 else none) j i len pc ls st cs nc ns
    | .error _ => none
def SC (s : State) : Prop := (∀ e ∈ CMN, va_Nw (Cond.methodLinkNest (cnm e.1) e.2.1 (cY e.2.2) "DebtBridge") s) ∧ va_AO RX7 s ∧ va_AO RX8 s ∧ va_AO RX10 s
theorem SC.same {s U : State} (hv : s.vm = U.vm) (h : SC s) : SC U := by
  have ha : s.vm.Alike U.vm := by rw [hv]; exact Vm.Alike.refl _
  exact ⟨fun e he => va_Nw.same rfl hv (h.1 e he), h.2.1.moved ha, h.2.2.1.moved ha, h.2.2.2.moved ha⟩
theorem SC.go {s U : State} (hW : s.WarmedH U.vm) (h : SC s) : SC U := ⟨fun e he => va_Nw.warmM hW (h.1 e he), h.2.1.moved hW.alike, h.2.2.1.moved hW.alike, h.2.2.2.moved hW.alike⟩
def CxC (j : Nat) (p : Program) (s : State) (m : MethodId) (args : Array Value) (meth : Method) (c : Code) (D : va_G) (dA : Nat → ClassId) (A : Nat → Prop) : Prop :=
  p.tables.exec = Jvm.exec ∧ c.code = cB j ∧ meth.sig.returnType = none ∧ c.maxLocals = cL j ∧ (∀ w ∈ tbg, w.before args s = true) ∧ s.vm.findClass (cnm j) = some m.cls ∧ meth.locks = false ∧ va_K D vwCl (tys dA) s ∧ (∀ q, s.heap.size ≤ q → A q) ∧ meth.name = "<init>" ∧ SC s
def QC (D : va_G) (dA : Nat → ClassId) (α0 : Nat → Nat) (c0 : Nat) (A : Nat → Prop) (cs' : List CE) : Array Value → State → Outcome → State → Prop := fun _ st o t =>
  (∃ α : Nat → Nat, (∀ i, i < c0 → α i = α0 i) ∧ o = .returned none ∧ va_P D vwCl (wrl dA α cs') t.heap ∧ va_K D vwCl (tys dA) t ∧ va_D A (wrl dA α cs')) ∧ va_F A st t
def rmC (d c s : Nat) : Room := { frames := d, cells := c, slots := s, locals := 64 * d }
/-- a constructor as a contract -/
def MC (dd k : Nat) (av : List AV) (cs cs2 : List CE) : Prop := ∀ (l : Launch) (D : va_G) (dA : Nat → ClassId) (α : Nat → Nat) (sz : Nat), Met l (cY k) (Cond.code (cY k) (cB k) (cL k) none :: tbg) (rmC (dd + 1) (cMc k) (cMs k))
    (va_Pc (av.map (cv (rA α))) (fun U => U.heap.size = sz ∧ va_P D vwCl (wrl dA α cs) U.heap ∧ va_K D vwCl (tys dA) U ∧ va_D (fun _ => True) (wrl dA α cs) ∧ SC U))
    (QC D dA α cs.length (va_A (wrl dA α cs) sz) cs2) (cMc k) (cMs k) (va_A (wrl dA α cs) sz)
def WCt (j : Nat) (p : Program) (l : Launch) (e : Env) (R : Room) (s : State) (m : MethodId) (args : Array Value) (below : List Frame) (meth : Method) (c : Code) (D : va_G) (dA : Nat → ClassId) (A : Nat → Prop) (c0 : Nat) (α0 : Nat → Nat) (Q : State → Prop) (pc : Nat) (ls st : List AV) (cs : List CE) (nc ns : Nat) : Prop :=
  ∀ (α : Nat → Nat) (H : Heap) (locs : List Loc) (la : Array Slot), (∀ i, i < c0 → α i = α0 i) → c0 ≤ cs.length → lv_has la (cL j) (lvp (rA α) 0 ls) → va_P D vwCl (wrl dA α cs) H → va_D A (wrl dA α cs) → va_S A s.heap H locs → W p l e R s m args below meth c H locs nc ns Q (F0 m pc la (st.map (cv (rA α))))
