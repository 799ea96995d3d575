/-! ap: what stands at the law's entry: classes, links, Strings; a constructor's code, run as far as a place -/
theorem eq_ref {args : Array Value} {s : State} {t t2 : Term} {a : Nat} (ht : t.eval args s none [] s = some (.ref a)) (h : (Cond.eq t t2).before args s = true) : t2.eval args s none [] s = some (.ref a) := by
  cases hv : t2.eval args s none [] s with
  | none => simp [Cond.before, Cond.holds, Cond.value, ht, hv] at h
  | some w =>
    simp only [Cond.before, Cond.holds, Cond.value, ht, hv] at h
    cases w <;> simp_all
def stE (n : Nat) : Nat × Nat × Nat := STT.getD n (0, 0, 0)
def tmS (n : Nat) : Term := .string (cnm (stE n).1) (stE n).2.1
abbrev tmV (n : Nat) : Term := .field (tmS n) "java/lang/String" "value" "[B"
def WS (n : Nat) : List Cond := [.exactly (tmS n) "java/lang/String", .eq (.field (tmS n) "java/lang/String" "coder" "B") (.int 0), .arrayOf (tmV n) .byte, .eq (.length (tmV n)) (.int (Int32.ofNat (sby n).length))] ++ (List.range (sby n).length).map (fun j => .eq (.elem (tmV n) (.int (Int32.ofNat j))) (.int (Int32.ofInt ((sby n).getD j 0))))
def WZ : List Cond := [.eq (.static "java/lang/String" "COMPACT_STRINGS" "Z") (.int 1), .isRef (.static "jdk/internal/util/Preconditions" "SIOOBE_FORMATTER" "Ljava/util/function/BiFunction;")] ++ (List.range 25).flatMap WS ++ [.eq (tmS 0) (.string (cnm 12) 112)]
set_option maxRecDepth 100000 in
theorem WZ_in : ∀ w ∈ WZ, w ∈ flatC (Jvm.Cond.and given_1 narrow_1) := subl_in _ _ (by decide +kernel)
theorem sby_lt : ∀ n : Fin 25, (sby n.val).length < 2 ^ 31 := by decide +kernel
theorem STT_c : ∀ e ∈ STT, e.2.2 < 25 ∧ (e = stE e.2.2 ∨ e = (12, 112, 0)) := by decide +kernel
set_option maxRecDepth 100000 in
theorem zw_in : Cond.laysStatic "java/lang/String" "COMPACT_STRINGS" "Z" ∈ lw_tbl ∧ Cond.laysStatic "jdk/internal/util/Preconditions" "SIOOBE_FORMATTER" "Ljava/util/function/BiFunction;" ∈ lw_tbl ∧ Cond.initialized "java/lang/String" ∈ lw_tbl ∧ Cond.initialized "jdk/internal/util/Preconditions" ∈ lw_tbl := ⟨subl_in _ [_] (by decide +kernel) _ (List.mem_singleton_self _), subl_in _ [_] (by decide +kernel) _ (List.mem_singleton_self _), subl_in _ [_] (by decide +kernel) _ (List.mem_singleton_self _), subl_in _ [_] (by decide +kernel) _ (List.mem_singleton_self _)⟩
set_option maxRecDepth 100000 in
theorem ao_in : Cond.arrayOver (.object RX7) ∈ lw_tbl ∧ Cond.arrayOver (.object RX8) ∈ lw_tbl ∧ Cond.arrayOver (.object RX10) ∈ lw_tbl := ⟨subl_in _ [_] (by decide +kernel) _ (List.mem_singleton_self _), subl_in _ [_] (by decide +kernel) _ (List.mem_singleton_self _), subl_in _ [_] (by decide +kernel) _ (List.mem_singleton_self _)⟩
section START1
variable {args : Array Value} {s : State}
theorem start_SS (hts : ∀ w ∈ lw_tbl, w.before args s = true) (hg : (Jvm.Cond.and given_1 narrow_1).before args s = true) (b : Nat) : ∃ ρ : Rho, ρ 65 0 = b ∧ SS ρ (fun q => s.heap.size ≤ q) s := by
  have hf := flat_of_before _ hg
  have hw : ∀ w ∈ WZ, w.before args s = true := fun w h => hf w (WZ_in w h)
  have hA : ∀ a : Nat, a < s.heap.size → ¬ (fun q : Nat => s.heap.size ≤ q) a := fun a h => Nat.not_le.mpr h
  have hS : ∀ n : Nat, n < 25 → ∀ w ∈ WS n, w.before args s = true := fun n hn w h => hw w (List.mem_append_left _ (List.mem_append_right _ (List.mem_flatMap.mpr ⟨n, List.mem_range.mpr hn, h⟩)))
  have h0 : ∀ n : Nat, ∃ q : Nat × Nat, n < 25 → (tmS n).eval args s none [] s = some (.ref q.1) ∧ va_O "java/lang/String" q.1 (fun q => s.heap.size ≤ q) s s.heap ∧ va_OF "java/lang/String" "coder" "B" (.int 0) q.1 (fun q => s.heap.size ≤ q) s s.heap ∧ va_OF "java/lang/String" "value" "[B" (.ref q.2) q.1 (fun q => s.heap.size ≤ q) s s.heap ∧ va_T .byte q.2 (sby n).length (fun j => .int (Int32.ofInt ((sby n).getD j 0))) (fun q => s.heap.size ≤ q) s s.heap := by
    intro n
    by_cases hn : n < 25
    · have w1 := hS n hn _ (List.mem_append_left _ List.mem_cons_self)
      have w2 := hS n hn _ (List.mem_append_left _ (List.mem_cons_of_mem _ List.mem_cons_self))
      have w3 := hS n hn _ (List.mem_append_left _ (List.mem_cons_of_mem _ (List.mem_cons_of_mem _ List.mem_cons_self)))
      have w4 := hS n hn _ (List.mem_append_left _ (List.mem_cons_of_mem _ (List.mem_cons_of_mem _ (List.mem_cons_of_mem _ List.mem_cons_self))))
      have w5 : ∀ j : Nat, j < (sby n).length → (Cond.eq (.elem (tmV n) (.int (Int32.ofNat j))) (.int (Int32.ofInt ((sby n).getD j 0)))).before args s = true := fun j hj => hS n hn _ (List.mem_append_right _ (List.mem_map.mpr ⟨j, List.mem_range.mpr hj, rfl⟩))
      obtain ⟨a, c, cA, kA, q1, q2, q3, q4, q5, q6, -⟩ := Cond.exactly_spec (args := args) (first := s) (o := none) (s := s) (idx := []) (t := tmS n) (cls := "java/lang/String") w1
      obtain ⟨t, ht, hT⟩ := va_Tof (f := fun j => .int (Int32.ofInt ((sby n).getD j 0))) (A := fun q => s.heap.size ≤ q) (sby_lt ⟨n, hn⟩) w3 (va_eqt w4) (fun j hj => va_eqt (w5 j hj)) hA
      exact ⟨(a, t), fun _ => ⟨q1, ⟨cA, q3, q5, by rw [q6]; exact q2, hA a (Array.getElem?_eq_some_iff.mp q3).1⟩, vk_OFof q1 (va_eqt w2) hA, vk_OFof q1 ht hA, hT⟩⟩
    · exact ⟨(0, 0), fun h => absurd h hn⟩
  obtain ⟨ad, had⟩ := Classical.axiomOfChoice h0
  obtain ⟨z1, z2, z3, z4⟩ := zw_in
  have hz1 := va_Zof (hts _ z1) (hts _ z3) (va_eqt (hw _ (List.mem_append_left _ (List.mem_append_left _ List.mem_cons_self)))) hA
  have hz2 := va_Zqof (hts _ z2) (hts _ z4) (hw _ (List.mem_append_left _ (List.mem_append_left _ (List.mem_cons_of_mem _ List.mem_cons_self)))) hA
  obtain ⟨t, hz3⟩ : ∃ t : Nat, va_Z "jdk/internal/util/Preconditions" "SIOOBE_FORMATTER" "Ljava/util/function/BiFunction;" .null (fun q => s.heap.size ≤ q) s s.heap ∨ va_Z "jdk/internal/util/Preconditions" "SIOOBE_FORMATTER" "Ljava/util/function/BiFunction;" (.ref t) (fun q => s.heap.size ≤ q) s s.heap := by
    rcases hz2 with h | ⟨t, h⟩
    · exact ⟨0, Or.inl h⟩
    · exact ⟨t, Or.inr h⟩
  obtain ⟨ρ, e63, e64, e66, e65⟩ : ∃ ρ : Rho, (∀ n, ρ 63 n = (ad n).1) ∧ (∀ n, ρ 64 n = (ad n).2) ∧ ρ 66 0 = t ∧ ρ 65 0 = b := ⟨fun K n => if K = 63 then (ad n).1 else if K = 64 then (ad n).2 else if K = 66 then t else b, fun _ => rfl, fun _ => rfl, rfl, rfl⟩
  refine ⟨ρ, e65, fun n hn => ?_, fun e he => ?_, ?_⟩
  · have h := (had n hn).2
    unfold SS1
    rw [e63, e64]
    exact h
  · obtain ⟨c1, c2⟩ := STT_c e he
    have h1 := hts _ (str_in _ (List.mem_map.mpr ⟨e, he, rfl⟩))
    rw [e63]
    rcases c2 with c2 | c2
    · have h2 := (had e.2.2 c1).1
      unfold tmS at h2
      rw [← c2] at h2
      exact vk_R.of h1 h2
    · have h2 := eq_ref (had 0 (by decide)).1 (hw _ (List.mem_append_right _ List.mem_cons_self))
      subst c2
      exact vk_R.of h1 h2
  · unfold SS2
    rw [e66]
    exact ⟨hz1, hz3⟩
theorem start_ST (hts : ∀ w ∈ lw_tbl, w.before args s = true) {ρ : Rho} {A : Nat → Prop} (h : SS ρ A s) : ST ρ A s :=
  ⟨fun e he => va_tabs rfl rfl (hts _ (fn_in _ (List.mem_map.mpr ⟨e, he, rfl⟩))), fun e he => va_tabs rfl rfl (hts _ (mn2_in _ (List.mem_map.mpr ⟨e, he, rfl⟩))), h⟩
theorem start_SC (hts : ∀ w ∈ lw_tbl, w.before args s = true) : SC s :=
  ⟨fun e he => va_tabs rfl rfl (hts _ (CMN_in _ (List.mem_map.mpr ⟨e, he, rfl⟩))), va_AO.of (hts _ ao_in.1), va_AO.of (hts _ ao_in.2.1), va_AO.of (hts _ ao_in.2.2)⟩
theorem arr_o {C : String} (h : (Cond.arrayOver (.object C)).before args s = true) : ∃ c : ClassId, ArrOfT s c (.object C) ∧ va_RA s c (.object C) := by
  obtain ⟨comp, c, k, h1, h2, h3, h4, h5⟩ := Cond.arrayOver_spec (args := args) (first := s) (o := none) (s := s) (idx := []) h
  exact ⟨c, fun N z => ⟨fun k h => (by cases h), k, h3, comp, h4⟩, k, comp, h3, h4, h1, h5⟩
theorem arr_p {ty : FieldType} (h : (Cond.arrayClass ty).before args s = true) : ∃ c : ClassId, ArrOfT s c ty ∧ s.vm.findClass ("[" ++ ty.toString) = some c := by
  obtain ⟨c, k, comp, h1, h2, h3⟩ := Cond.arrayClass_spec (args := args) (first := s) (o := none) (s := s) (idx := []) h
  exact ⟨c, fun N z => ⟨fun k h => (by cases h), k, h2, comp, h3⟩, h1⟩
theorem start_K (hts : ∀ w ∈ lw_tbl, w.before args s = true) : ∃ (D : va_G) (dA : Nat → ClassId), va_K D vwCl (tys dA) s := by
  have htg : ∀ w ∈ tbg, w.before args s = true := fun w h => hts w (List.mem_filter.mp h).1
  have h0 : ∀ k : Nat, ∃ q : ClassId × (Nat → Nat), k < 13 → u_Kn s (cnm k) (tX k) (nX k) q.1 q.2 := by
    intro k
    by_cases hk : k < 13
    · obtain ⟨c, i, h⟩ := u_known htg (cl_at hk).2.1 (htg _ (mem3 hk).2.2)
      exact ⟨(c, i), fun _ => h⟩
    · exact ⟨(0, fun _ => 0), fun h => absurd h hk⟩
  obtain ⟨ad, had⟩ := Classical.axiomOfChoice h0
  obtain ⟨a1, a2, a3, a4⟩ := AC_in
  obtain ⟨cI, i1, i2⟩ := arr_p (htg _ a2)
  obtain ⟨cB, b1, b2⟩ := arr_p (htg _ a1)
  obtain ⟨cZ, z1, z2⟩ := arr_p (htg _ a3)
  obtain ⟨cJ, j1, j2⟩ := arr_p (htg _ a4)
  obtain ⟨c8, p1, p2⟩ := arr_o (hts _ ao_in.2.1)
  obtain ⟨c10, q1, q2⟩ := arr_o (hts _ ao_in.2.2)
  obtain ⟨c7, r1, r2⟩ := arr_o (hts _ ao_in.1)
  refine ⟨(fun k => (ad k).1, fun k => (ad k).2), fun k => [cI, cB, cZ, cJ, c8, c10, c7].getD k 0, fun k q hq => ?_, fun k q hq => ?_⟩
  · have hk : k < 13 := (List.getElem?_eq_some_iff.mp hq).1
    have := Option.some.inj ((cl_at hk).1.symm.trans hq)
    subst this
    exact had k hk
  · match k, hq with
    | 0, hq => cases hq; exact ⟨i1, i2⟩
    | 1, hq => cases hq; exact ⟨b1, b2⟩
    | 2, hq => cases hq; exact ⟨z1, z2⟩
    | 3, hq => cases hq; exact ⟨j1, j2⟩
    | 4, hq => cases hq; exact ⟨p1, p2⟩
    | 5, hq => cases hq; exact ⟨q1, q2⟩
    | 6, hq => cases hq; exact ⟨r1, r2⟩
    | k + 7, hq => simp [tys] at hq
end START1
/-- a constructor's code as far as a place -/
def exP (sp : Nat) : Nat → Nat → Nat → List AV → List AV → List CE → Nat → Nat → Option (List AV × List AV × List CE × Nat × Nat)
  | 0, _, _, _, _, _, _, _ => none
  | n + 1, j, pc, ls, st, cs, nc, ns => if pc = sp then some (ls, st, cs, nc, ns) else match decode (cB j) pc with
    | .ok (i, len) => cst (cMc j) (cMs j) (fun pc ls st cs nc ns => exP sp n j pc ls st cs nc ns) (fun _ _ _ => none) (fun _ _ _ => none) j i len pc ls st cs nc ns
    | .error _ => none
theorem exP_ok {sp : Nat} {j : Nat} {p : Program} {l : Launch} {e : Env} {R : Room} {s : State} {m : MethodId} {args : Array Value} {below : List Frame} {meth : Method} {c : Code} {D : va_G} {dA : Nat → ClassId} {A : Nat → Prop} {c0 : Nat} {α0 : Nat → Nat} {Q : State → Prop} (hj : j < 13) (C : CxC j p s m args meth c D dA A) (hC : cMc j ≤ R.cells) (hS : cMs j ≤ R.slots) (hR : 1 ≤ R.frames ∧ 64 ≤ R.locals) {b : List AV × List AV × List CE × Nat × Nat} (hb : WCt j p l e R s m args below meth c D dA A c0 α0 Q sp b.1 b.2.1 b.2.2.1 b.2.2.2.1 b.2.2.2.2) :
    ∀ (n pc : Nat) (ls st : List AV) (cs : List CE) (nc ns : Nat), exP sp n j pc ls st cs nc ns = some b → WCt j p l e R s m args below meth c D dA A c0 α0 Q pc ls st cs nc ns := by
  intro n
  induction n with
  | zero => intro pc ls st cs nc ns h; cases h
  | succ n ih =>
    intro pc ls st cs nc ns h
    unfold exP at h
    by_cases hp : pc = sp
    · rw [if_pos hp] at h
      have := Option.some.inj h
      subst this
      subst hp
      exact hb
    · rw [if_neg hp] at h
      cases hd : decode (cB j) pc with
      | error _ =>
        rw [hd] at h
        cases h
      | ok w =>
        obtain ⟨i, len⟩ := w
        rw [hd] at h
        exact cst_ok (dd := 0) hj C hR hC hS hd (fun pc ls st cs nc ns g => ih pc ls st cs nc ns g) (fun pc ls cs nc ns hdr g => by cases g) (fun k av cs cs2 g hk hav => by cases g) h
