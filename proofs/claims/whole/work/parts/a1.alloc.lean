/-! a1: runs that make: addresses that come, calls, ends -/
def ext (ρ ρ' : Rho) : Prop := ∀ K i : Nat, ¬ (K = 3 ∨ (21 ≤ K ∧ K ≤ 25)) → ρ' K i = ρ K i
theorem ext.rf {ρ : Rho} : ext ρ ρ := fun _ _ _ => rfl
theorem ext.tr {ρ ρ1 ρ2 : Rho} (h : ext ρ ρ1) (h2 : ext ρ1 ρ2) : ext ρ ρ2 := fun K i hk => (h2 K i hk).trans (h K i hk)
def nrf (v : AV) : Bool := match v with
  | .inr (.inr (some q)) => !(q.1 == 3 || (decide (21 ≤ q.1) && decide (q.1 ≤ 25)))
  | _ => true
def nrl (l : List AV) : Bool := l.all nrf
theorem cv_ext {ρ ρ' : Rho} {v : AV} (h : nrf v = true) (he : ext ρ ρ') : cv ρ' v = cv ρ v := by
  rcases v with z | z | _ | q
  · rfl
  · rfl
  · rfl
  · show Value.ref (ρ' q.1 q.2) = Value.ref (ρ q.1 q.2)
    rw [he q.1 q.2 (fun x => by simp [nrf] at h; omega)]
theorem map_ext {ρ ρ' : Rho} {l : List AV} (h : nrl l = true) (he : ext ρ ρ') : l.map (cv ρ') = l.map (cv ρ) := List.map_congr_left (fun v hv => cv_ext (List.all_eq_true.mp h v hv) he)
theorem lvp_ext {ρ ρ' : Rho} (he : ext ρ ρ') : ∀ (ls : List AV) (k : Nat), nrl ls = true → lvp ρ' k ls = lvp ρ k ls := by
  intro ls
  induction ls with
  | nil => intro k _; rfl
  | cons v r ih =>
    intro k h
    simp only [nrl, List.all_cons, Bool.and_eq_true] at h
    unfold lvp
    rw [ih (k + 1) h.2, cv_ext h.1 he]
theorem ST_ext {ρ ρ' : Rho} {A : Nat → Prop} {s : State} (he : ext ρ ρ') (h : ST ρ A s) : ST ρ' A s := by
  have e63 : ∀ n, ρ' 63 n = ρ 63 n := fun n => he 63 n (by omega)
  have e64 : ∀ n, ρ' 64 n = ρ 64 n := fun n => he 64 n (by omega)
  have e66 : ∀ n, ρ' 66 n = ρ 66 n := fun n => he 66 n (by omega)
  unfold ST SS SS1 SS2 at h ⊢
  simp only [e63, e64, e66]
  exact h
theorem Cx_ext {ρ ρ' : Rho} {j : Nat} {p : Program} {s : State} {m : MethodId} {args : Array Value} {meth : Method} {c : Code} {D : va_G} {dA : Nat → ClassId} {A : Nat → Prop} (he : ext ρ ρ') (C : Cx j p s m args meth c D dA ρ A) : Cx j p s m args meth c D dA ρ' A :=
  ⟨C.1, C.2.1, C.2.2.1, C.2.2.2.1, C.2.2.2.2.1, C.2.2.2.2.2.1, C.2.2.2.2.2.2.1, C.2.2.2.2.2.2.2.1, C.2.2.2.2.2.2.2.2.1, ST_ext he C.2.2.2.2.2.2.2.2.2⟩
/-- ends that new addresses don't mind; ends that hold where the links are wanting -/
def mnY (Y : YQ) : Prop := ∀ (below : List Frame) (args : Array Value) (s : State) (D : va_G) (dA : Nat → ClassId) (ρ ρ' : Rho) (A : Nat → Prop) (t : State), ext ρ ρ' → Y below args s D dA ρ' A t → Y below args s D dA ρ A t
def scY (Y : YQ) : Prop := ∀ (below : List Frame) (args : Array Value) (s : State) (D : va_G) (dA : Nat → ClassId) (ρ : Rho) (A : Nat → Prop) (t : State), ¬ SC s → Y below args s D dA ρ A t
def QKA (D : va_G) (dA : Nat → ClassId) (ρ : Rho) (A : Nat → Prop) (K : Option AV → Mem → Prop) : Array Value → State → Outcome → State → Prop := fun _ st o t =>
  (∃ (r : Option AV) (ρ' : Rho) (σ' : Mem), ext ρ ρ' ∧ o = .returned (r.map (cv ρ')) ∧ K r σ' ∧ va_P D vwCl (wld dA ρ' σ') t.heap ∧ va_K D vwCl (tys dA) t ∧ va_D A (wld dA ρ' σ')) ∧ va_F A st t
def YA (K : Option AV → Mem → Prop) (mc ms : Nat) : YQ := fun below args s D dA ρ A t => SC s → MQ below (QKA D dA ρ A K) args s mc ms A t
theorem YA_mn {K : Option AV → Mem → Prop} {mc ms : Nat} : mnY (YA K mc ms) := by
  intro below args s D dA ρ ρ' A t he h hs
  obtain ⟨o, h1, h2, ⟨⟨r, ρ2, σ', g1, g2⟩, g3⟩, h4⟩ := h hs
  exact ⟨o, h1, h2, ⟨⟨r, ρ2, σ', he.tr g1, g2⟩, g3⟩, h4⟩
theorem YA_sc {K : Option AV → Mem → Prop} {mc ms : Nat} : scY (YA K mc ms) := fun _ _ _ _ _ _ _ _ h x => absurd x h
/-- a call that makes at most mc cells of ms slots -/
def EvA (d mc ms j : Nat) (av : List AV) (σ : Mem) (K : Option AV → Mem → Prop) : Prop :=
  ∀ (l : Launch) (D : va_G) (dA : Nat → ClassId) (ρ : Rho) (sz : Nat), Met l (mY j) (Cond.code (mY j) (mB j) (mL j) (mR j) :: tbg) (rmC d mc ms)
    (va_Pc (av.map (cv ρ)) (fun U => U.heap.size = sz ∧ va_P D vwCl (wld dA ρ σ) U.heap ∧ va_K D vwCl (tys dA) U ∧ va_D (fun _ => True) (wld dA ρ σ) ∧ ST ρ (va_A (wld dA ρ σ) sz) U ∧ SC U))
    (QKA D dA ρ (va_A (wld dA ρ σ) sz) K) mc ms (va_A (wld dA ρ σ) sz)
theorem EvA.mono {d mc ms j : Nat} {av : List AV} {σ : Mem} {K K2 : Option AV → Mem → Prop} (h : EvA d mc ms j av σ K) (hk : ∀ r σ, K r σ → K2 r σ) : EvA d mc ms j av σ K2 := by
  intro l D dA ρ sz p e h1 h2 h3 s m args below h4 h5 h6 h7
  obtain ⟨n, o, a, b, c, ⟨⟨r9, ρ', σ', q1, q2, q3, q4⟩, q5⟩, r⟩ := h l D dA ρ sz p e h1 h2 h3 s m args below h4 h5 h6 h7
  exact ⟨n, o, a, b, c, ⟨⟨_, ρ', σ', q1, q2, hk _ _ q3, q4⟩, q5⟩, r⟩
theorem EvA.enter {d mc ms j n : Nat} {av : List AV} {σ : Mem} {K : Option AV → Mem → Prop} (hj : j < 315) (hn : mL j = n) (hl : (entL av).length ≤ n) (h : RnG (rmC d mc ms, 0, 0) j 0 (ent n av) [] σ (YA K mc ms)) : EvA d mc ms j av σ K := by
  intro l D dA ρ sz
  refine Met.ofW (cc := mB j) (maxL := mL j) (ret := mR j) (mok_spec hj).1 rfl ?_
  intro p e s m args below meth c s₁ B hml hv
  obtain ⟨rfl, hsz, hP, hK, hD0, hT, hSC⟩ := hv
  subst hsz
  have hts := atoms_spec (ws := Cond.code (mY j) (mB j) (mL j) (mR j) :: tbg) B.pre
  have hown : s.vm.findClass (mY j).cls = some m.cls := findClass_of_methodNamed B.named
  have hle := lv_entry (av.map (cv ρ)) (n := mL j) (by rw [entL_len, hn]; exact hl)
  rw [lg_entry_eq]
  have G := h p l e s m (av.map (cv ρ)).toArray below meth c D dA ρ (va_A (wld dA ρ σ) s.heap.size) s.heap [] _ ⟨B.exec, B.bytes, B.returns, hml, fun w hw => hts w (List.mem_cons_of_mem _ hw), by rw [← (mok_spec hj).2.1]; exact hown, B.notSynchronized, hK, fun q hq => Or.inr hq, hT⟩ (lv_mono hle ?_) hP hD0.self va_S.rf
  · intro T hT9 X
    obtain ⟨t, a1, b1⟩ := G T hT9 X
    exact ⟨t, a1, b1 hSC⟩
  intro q hq
  obtain ⟨k, h1, h2, h3⟩ := (lvp_mem ρ _ 0 q).mp hq
  rw [h2]
  unfold ent at h3 ⊢
  rcases lg_app _ _ _ h3 with ⟨g1, g2⟩ | ⟨g1, g2⟩
  · rw [g2] at h3 ⊢
    exact ent_args av 0 k h3
  · rw [g2, lg_rep] at h3
    simp [isN] at h3
section RULESA
variable {X : XR} {Y : YQ} {d j pc pc' : Nat} {ls st : List AV} {σ : Mem}
theorem run_onG {p : Program} {l : Launch} {e : Env} {s : State} {m : MethodId} {args : Array Value} {below : List Frame} {meth : Method} {c : Code} {D : va_G} {dA : Nat → ClassId} {ρ : Rho} {A : Nat → Prop} {H : Heap} {locs : List Loc} {la : Array Slot} {a : Array Value} {st0 : List Value} {rest : List AV}
    (C : Cx j p s m args meth c D dA ρ A) (hl : lv_has la (mL j) (lvp ρ 0 ls)) (hD : va_D A (wld dA ρ σ)) (hS : va_S A s.heap H locs)
    (run : va_Run p l e X.1 s m args below meth c H locs X.2.1 X.2.2 0 0 (F0 m pc la st0) (rest.map (cv ρ)) (QK D dA ρ (va_A (wld dA ρ σ) H.size) (fun r σ' => RnG X j (pc + 3) ls (psh r rest) σ' Y) a) (va_A (wld dA ρ σ) H.size)) :
    W p l e X.1 s m args below meth c H locs X.2.1 X.2.2 (Y below args s D dA ρ A) (F0 m pc la st0) := by
  have hAA : ∀ q, va_A (wld dA ρ σ) H.size q → A q := by
    rintro q (⟨k, x, h⟩ | h)
    · exact hD.2 k _ h
    · exact C.2.2.2.2.2.2.2.2.1 q (Nat.le_trans hS.1 h)
  intro T hT X9
  obtain ⟨v, st₀, t, T', L, h0, X', hL, e1, e2, ⟨⟨r, σ', hv, hKr, hP', hK', hD'⟩, hz, hk⟩, stp⟩ := run T hT X9
  cases hv
  rw [h0] at hz hk
  rw [← e1] at hP' hz hk
  have G := hKr p l e s m args below meth c D dA ρ A T'.heap (locs ++ L) la C hl hP' (hD'.weaken (fun _ _ _ h => hAA _ h))
    ⟨Nat.le_trans hS.1 hz, fun q h1 h2 => by rw [hk q (Nat.lt_of_lt_of_le h1 hS.1) (fun z => h2 (hAA q z))]; exact hS.2.1 q h1 h2, fun q hq => by
      rcases List.mem_append.mp hq with h | h
      · exact hS.2.2 q h
      · exact hAA _ (hL q h)⟩
  obtain ⟨t2, a1, b1⟩ := G T' rfl X'
  refine ⟨t2, stp t2 ?_, b1⟩
  rw [← psh_map] at a1
  exact a1
theorem run_onA {p : Program} {l : Launch} {e : Env} {s : State} {m : MethodId} {args : Array Value} {below : List Frame} {meth : Method} {c : Code} {D : va_G} {dA : Nat → ClassId} {ρ : Rho} {A : Nat → Prop} {H : Heap} {locs : List Loc} {la : Array Slot} {a : Array Value} {st0 : List Value} {rest : List AV} {mc ms : Nat} (hm1 : mnY Y) (hnl : nrl ls = true) (hnr : nrl rest = true)
    (C : Cx j p s m args meth c D dA ρ A) (hl : lv_has la (mL j) (lvp ρ 0 ls)) (hD : va_D A (wld dA ρ σ)) (hS : va_S A s.heap H locs)
    (run : va_Run p l e X.1 s m args below meth c H locs X.2.1 X.2.2 mc ms (F0 m pc la st0) (rest.map (cv ρ)) (QKA D dA ρ (va_A (wld dA ρ σ) H.size) (fun r σ' => RnG (X.1, X.2.1 + mc, X.2.2 + ms) j (pc + 3) ls (psh r rest) σ' Y) a) (va_A (wld dA ρ σ) H.size)) :
    W p l e X.1 s m args below meth c H locs X.2.1 X.2.2 (Y below args s D dA ρ A) (F0 m pc la st0) := by
  have hAA : ∀ q, va_A (wld dA ρ σ) H.size q → A q := by
    rintro q (⟨k, x, h⟩ | h)
    · exact hD.2 k _ h
    · exact C.2.2.2.2.2.2.2.2.1 q (Nat.le_trans hS.1 h)
  intro T hT X9
  obtain ⟨v, st₀, t, T', L, h0, X', hL, e1, e2, ⟨⟨r, ρ', σ', he, hv, hKr, hP', hK', hD'⟩, hz, hk⟩, stp⟩ := run T hT X9
  cases hv
  rw [h0] at hz hk
  rw [← e1] at hP' hz hk
  have G := hKr p l e s m args below meth c D dA ρ' A T'.heap (locs ++ L) la (Cx_ext he C) (by rw [lvp_ext he ls 0 hnl]; exact hl) hP' (hD'.weaken (fun _ _ _ h => hAA _ h))
    ⟨Nat.le_trans hS.1 hz, fun q h1 h2 => by rw [hk q (Nat.lt_of_lt_of_le h1 hS.1) (fun z => h2 (hAA q z))]; exact hS.2.1 q h1 h2, fun q hq => by
      rcases List.mem_append.mp hq with h | h
      · exact hS.2.2 q h
      · exact hAA _ (hL q h)⟩
  obtain ⟨t2, a1, b1⟩ := G T' rfl X'
  refine ⟨t2, stp t2 ?_, hm1 below args s D dA ρ ρ' A t2 he b1⟩
  rw [← psh_map, map_ext hnr he] at a1
  exact a1
theorem room_okG {d0 mx : Nat} {R : Room} (h : mx ≤ 40) (hX : d0 + 1 ≤ R.frames ∧ 64 * (d0 + 1) ≤ R.locals) : (rmd d0).frames + 1 ≤ R.frames ∧ 8 + (mx + 11) + (rmd d0).locals ≤ R.locals := by
  constructor
  · exact hX.1
  · show 8 + (mx + 11) + 64 * d0 ≤ R.locals
    omega
theorem pre_callA {s : State} {D : va_G} {dA : Nat → ClassId} {ρ : Rho} {A : Nat → Prop} {H : Heap} {locs : List Loc} {av : List AV} (hK : va_K D vwCl (tys dA) s) (hA : ∀ q, s.heap.size ≤ q → A q) (hT : ST ρ A s) (hSC : SC s) (hP : va_P D vwCl (wld dA ρ σ) H) (hD : va_D A (wld dA ρ σ)) (hS : va_S A s.heap H locs) :
    FrameBlind (va_Pc (av.map (cv ρ)) (fun U => U.heap.size = H.size ∧ va_P D vwCl (wld dA ρ σ) U.heap ∧ va_K D vwCl (tys dA) U ∧ va_D (fun _ => True) (wld dA ρ σ) ∧ ST ρ (va_A (wld dA ρ σ) H.size) U ∧ SC U)) ∧
    ∀ U : State, U.heap = H → s.WarmedH U.vm → va_Pc (av.map (cv ρ)) (fun U => U.heap.size = H.size ∧ va_P D vwCl (wld dA ρ σ) U.heap ∧ va_K D vwCl (tys dA) U ∧ va_D (fun _ => True) (wld dA ρ σ) ∧ ST ρ (va_A (wld dA ρ σ) H.size) U ∧ SC U) (av.map (cv ρ)).toArray U := by
  refine ⟨fun a U g mk q => ?_, fun U hU hW => ⟨rfl, by rw [hU], by rw [hU]; exact hP, va_K.moved hW.alike hK, hD.weaken (fun _ _ _ _ => trivial), ?_, hSC.go hW⟩⟩
  · obtain ⟨q0, q1, qP, qK, qD, qT, qS⟩ := q
    exact ⟨q0, q1, qP, va_K.moved (u := U) (U := U.calling g mk a) (Vm.Alike.refl U.vm) qK, qD, qT.same rfl rfl, qS.same rfl⟩
  · refine hT.go hW (fun q h1 h2 => by rw [hU]; exact hS.2.1 q h1 h2) ?_
    rintro q (⟨k, x, h⟩ | h)
    · exact hD.2 k _ h
    · exact hA q (Nat.le_trans hS.1 h)
theorem R_callSG {x n : Nat} {av rest : List AV} (hn : nxt (mC j) (mB j) pc (.multianewarray x n) = some pc') (ha : av.length = n) (hr : rest.length ≤ 4) (hX : d + 1 ≤ X.1.frames ∧ 64 * (d + 1) ≤ X.1.locals) (hc2 : X.2.1 ≤ X.1.cells) (hs2 : X.2.2 ≤ X.1.slots) (hk : Ev d x av σ (fun r σ' => RnG X j pc' ls (psh r rest) σ' Y)) : RnG X j pc ls (av.reverse ++ rest) σ Y := by
  intro p l e s m args below meth c D dA ρ A H locs la C hl hP hD hS
  have hC := C
  obtain ⟨hx, hb, hrr, hml, hts, hown, hlk, hK, hA, hT⟩ := C
  have hM := hk l D dA ρ H.size
  simp only [nxt] at hn
  split at hn
  · cases hn
  rename_i h0
  simp only [Bool.not_eq_true', Bool.not_eq_false, Bool.and_eq_true, decide_eq_true_eq, beq_iff_eq] at h0
  obtain ⟨⟨h1, h2⟩, h3⟩ := h0
  obtain ⟨m1, m2, m3, m4, m5, m6, m7⟩ := mok_spec h1
  have hp := pre_call (av := av) hK hA hT hP hD hS
  have hstack : (F0 m pc la ((av.reverse ++ rest).map (cv ρ))).stack = (av.map (cv ρ)).reverse ++ rest.map (cv ρ) := by simp
  split at hn
  · rename_i h; cases hn
    obtain ⟨e1, g1, g2⟩ := List.any_eq_true.mp h
    simp only [Bool.and_eq_true, beq_iff_eq] at g2
    obtain ⟨⟨a1, a2⟩, a3⟩ := g2
    have hlink := hts _ (ml_in _ (List.mem_map.mpr ⟨e1, g1, rfl⟩))
    rw [a1, a2] at hlink
    exact run_onG hC hl hD hS (va_runS (own := cnm (mC j)) ⟨hx, hb, hml, hown, hts⟩ hM ⟨callB_of (mP x) hts (good_tbg x h1) rfl rfl rfl (hts _ m5) hlink m3 (room_okG m4 hX), hts _ (m6 h3)⟩ hp rfl (by simp [ha, h2]) hl.1 hstack (lv_room (st_room hr)) (dOk_spec a3) ⟨hc2, hs2⟩)
  · split at hn
    · rename_i h; cases hn
      obtain ⟨e1, g1, g2⟩ := List.any_eq_true.mp h
      simp only [Bool.and_eq_true, beq_iff_eq] at g2
      obtain ⟨⟨a1, a2⟩, a3⟩ := g2
      have hlink := hT.2.1 e1 g1
      rw [a1, a2] at hlink
      exact run_onG hC hl hD hS (va_runSN (own := cnm (mC j)) ⟨hx, hb, hml, hown, hts⟩ hM ⟨va_cnB (mP x) hts (good_tbg x h1) rfl rfl rfl hlink (hts _ m5) m3 (room_okG m4 hX), hts _ (m6 h3), trivial⟩ hp rfl (by simp [ha, h2]) hl.1 hstack (lv_room (st_room hr)) (dOk_spec a3) ⟨hc2, hs2⟩)
    · cases hn
theorem R_callVG {x n i : Nat} {av rest : List AV} (hn : nxt (mC j) (mB j) pc (.invokeinterface x n) = some pc') (hc : x % 16 < 13) (hi : i < cnt σ (x % 16)) (ha : av.length = n) (hr : rest.length ≤ 4) (hX : d + 1 ≤ X.1.frames ∧ 64 * (d + 1) ≤ X.1.locals) (hc2 : X.2.1 ≤ X.1.cells) (hs2 : X.2.2 ≤ X.1.slots) (hk : Ev d (x / 16) (.inr (.inr (some (x % 16, i))) :: av) σ (fun r σ' => RnG X j pc' ls (psh r rest) σ' Y)) : RnG X j pc ls (av.reverse ++ .inr (.inr (some (x % 16, i))) :: rest) σ Y := by
  intro p l e s m args below meth c D dA ρ A H locs la C hl hP hD hS
  have hC := C
  obtain ⟨hx, hb, hrr, hml, hts, hown, hlk, hK, hA, hT⟩ := C
  have hM := hk l D dA ρ H.size
  simp only [nxt] at hn
  split at hn
  · cases hn
  rename_i h0
  simp only [Bool.not_eq_true', Bool.not_eq_false, Bool.and_eq_true, decide_eq_true_eq, beq_iff_eq] at h0
  obtain ⟨⟨⟨h1, h2⟩, h3⟩, h4⟩ := h0
  obtain ⟨m1, m2, m3, m4, m5, m6, m7⟩ := mok_spec h1
  have hp := pre_call (av := .inr (.inr (some (x % 16, i))) :: av) hK hA hT hP hD hS
  obtain ⟨q0, hq1, hq2⟩ := wld_at (dA := dA) (ρ := ρ) (K := x % 16) (by simp [isK, hc]) hi
  simp only [cel, if_pos hc] at hq2
  have hrec := va_recv hK hP (cl_at hc).1 hq2
  have hC2 : (mY (x / 16)).cls = cnm (x % 16) := by rw [m2, h2]
  have hstack : (F0 m pc la ((av.reverse ++ .inr (.inr (some (x % 16, i))) :: rest).map (cv ρ))).stack = (av.map (cv ρ)).reverse ++ Value.ref (ρ (x % 16) i) :: rest.map (cv ρ) := by simp [cv]
  split at hn
  · rename_i h; cases hn
    obtain ⟨e1, g1, g2⟩ := List.any_eq_true.mp h
    simp only [Bool.and_eq_true, beq_iff_eq] at g2
    obtain ⟨⟨a1, a2⟩, a3⟩ := g2
    have hlink := hts _ (ml_in _ (List.mem_map.mpr ⟨e1, g1, rfl⟩))
    rw [a1, a2] at hlink
    exact run_onG hC hl hD hS (va_runV (own := cnm (mC j)) (C := (mY (x / 16)).cls) ⟨hx, hb, hml, hown, hts⟩ hM ⟨callB_of (mP (x / 16)) hts (good_tbg _ h1) rfl rfl rfl (hts _ m5) hlink m3 (room_okG m4 hX), hts _ (m7 h4).1, hts _ (m7 h4).2⟩ ⟨hp.1, by rw [hC2]; exact hrec, hp.2⟩ rfl (by simp [ha, h3]) hl.1 hstack (lv_room (st_room hr)) (dOk_spec a3) ⟨hc2, hs2⟩)
  · split at hn
    · rename_i h; cases hn
      obtain ⟨e1, g1, g2⟩ := List.any_eq_true.mp h
      simp only [Bool.and_eq_true, beq_iff_eq] at g2
      obtain ⟨⟨a1, a2⟩, a3⟩ := g2
      have hlink := hT.2.1 e1 g1
      rw [a1, a2] at hlink
      exact run_onG hC hl hD hS (va_runVN (own := cnm (mC j)) (C := (mY (x / 16)).cls) ⟨hx, hb, hml, hown, hts⟩ hM ⟨va_cnB (mP (x / 16)) hts (good_tbg _ h1) rfl rfl rfl hlink (hts _ m5) m3 (room_okG m4 hX), hts _ (m7 h4).1, hts _ (m7 h4).2⟩ ⟨hp.1, by rw [hC2]; exact hrec, hp.2⟩ rfl (by simp [ha, h3]) hl.1 hstack (lv_room (st_room hr)) (dOk_spec a3) ⟨hc2, hs2⟩)
    · cases hn
theorem R_callVA {x n i mc ms : Nat} {av rest : List AV} (hn : nxt (mC j) (mB j) pc (.invokeinterface x n) = some pc') (hc : x % 16 < 13) (hi : i < cnt σ (x % 16)) (ha : av.length = n) (hr : rest.length ≤ 4) (hX : d + 1 ≤ X.1.frames ∧ 64 * (d + 1) ≤ X.1.locals) (hc2 : X.2.1 + mc ≤ X.1.cells) (hs2 : X.2.2 + ms ≤ X.1.slots) (hm1 : mnY Y) (hm2 : scY Y) (hnl : nrl ls = true) (hnr : nrl rest = true) (hk : EvA d mc ms (x / 16) (.inr (.inr (some (x % 16, i))) :: av) σ (fun r σ' => RnG (X.1, X.2.1 + mc, X.2.2 + ms) j pc' ls (psh r rest) σ' Y)) : RnG X j pc ls (av.reverse ++ .inr (.inr (some (x % 16, i))) :: rest) σ Y := by
  intro p l e s m args below meth c D dA ρ A H locs la C hl hP hD hS
  by_cases hSC : SC s
  rotate_left 1
  · intro T hT X9
    exact ⟨_, Steps.refl _, hm2 below args s D dA ρ A _ hSC⟩
  have hC := C
  obtain ⟨hx, hb, hrr, hml, hts, hown, hlk, hK, hA, hT⟩ := C
  have hM := hk l D dA ρ H.size
  simp only [nxt] at hn
  split at hn
  · cases hn
  rename_i h0
  simp only [Bool.not_eq_true', Bool.not_eq_false, Bool.and_eq_true, decide_eq_true_eq, beq_iff_eq] at h0
  obtain ⟨⟨⟨h1, h2⟩, h3⟩, h4⟩ := h0
  obtain ⟨m1, m2, m3, m4, m5, m6, m7⟩ := mok_spec h1
  have hp := pre_callA (av := .inr (.inr (some (x % 16, i))) :: av) hK hA hT hSC hP hD hS
  obtain ⟨q0, hq1, hq2⟩ := wld_at (dA := dA) (ρ := ρ) (K := x % 16) (by simp [isK, hc]) hi
  simp only [cel, if_pos hc] at hq2
  have hrec := va_recv hK hP (cl_at hc).1 hq2
  have hC2 : (mY (x / 16)).cls = cnm (x % 16) := by rw [m2, h2]
  have hstack : (F0 m pc la ((av.reverse ++ .inr (.inr (some (x % 16, i))) :: rest).map (cv ρ))).stack = (av.map (cv ρ)).reverse ++ Value.ref (ρ (x % 16) i) :: rest.map (cv ρ) := by simp [cv]
  split at hn
  · rename_i h; cases hn
    obtain ⟨e1, g1, g2⟩ := List.any_eq_true.mp h
    simp only [Bool.and_eq_true, beq_iff_eq] at g2
    obtain ⟨⟨a1, a2⟩, a3⟩ := g2
    have hlink := hts _ (ml_in _ (List.mem_map.mpr ⟨e1, g1, rfl⟩))
    rw [a1, a2] at hlink
    exact run_onA hm1 hnl hnr hC hl hD hS (va_runV (own := cnm (mC j)) (C := (mY (x / 16)).cls) ⟨hx, hb, hml, hown, hts⟩ hM ⟨callB_of (mP (x / 16)) hts (good_tbg _ h1) rfl rfl rfl (hts _ m5) hlink m3 (room_okG m4 hX), hts _ (m7 h4).1, hts _ (m7 h4).2⟩ ⟨hp.1, by rw [hC2]; exact hrec, hp.2⟩ rfl (by simp [ha, h3]) hl.1 hstack (lv_room (st_room hr)) (dOk_spec a3) ⟨hc2, hs2⟩)
  · split at hn
    · rename_i h; cases hn
      obtain ⟨e1, g1, g2⟩ := List.any_eq_true.mp h
      simp only [Bool.and_eq_true, beq_iff_eq] at g2
      obtain ⟨⟨a1, a2⟩, a3⟩ := g2
      have hlink := hT.2.1 e1 g1
      rw [a1, a2] at hlink
      exact run_onA hm1 hnl hnr hC hl hD hS (va_runVN (own := cnm (mC j)) (C := (mY (x / 16)).cls) ⟨hx, hb, hml, hown, hts⟩ hM ⟨va_cnB (mP (x / 16)) hts (good_tbg _ h1) rfl rfl rfl hlink (hts _ m5) m3 (room_okG m4 hX), hts _ (m7 h4).1, hts _ (m7 h4).2⟩ ⟨hp.1, by rw [hC2]; exact hrec, hp.2⟩ rfl (by simp [ha, h3]) hl.1 hstack (lv_room (st_room hr)) (dOk_spec a3) ⟨hc2, hs2⟩)
    · cases hn
theorem R_imaxG {a b : Int} (hn : nxt (mC j) (mB j) pc (.dcmp .g) = some pc') (ha : in32 a) (hb : in32 b) (hr : st.length ≤ 4) (hX : 1 ≤ X.1.frames ∧ 64 ≤ X.1.locals) (hc2 : X.2.1 ≤ X.1.cells) (hs2 : X.2.2 ≤ X.1.slots) (hk : RnG X j pc' ls (.inl (imax a b) :: st) σ Y) : RnG X j pc ls (.inl b :: .inl a :: st) σ Y := by
  intro p l e s m args below meth c D dA ρ A H locs la C hl hP hD hS
  have G := hk p l e s m args below meth c D dA ρ A H locs la C hl hP hD hS
  have hrm : ((st.map (cv ρ)).map fun v => v.category).sum + 13 ≤ X.1.locals := by
    have := st_room (ρ := ρ) hr
    omega
  simp only [nxt, if_true] at hn
  split at hn
  · rename_i h; cases hn
    obtain ⟨e1, g1, g2⟩ := List.any_eq_true.mp h
    simp only [Bool.and_eq_true, beq_iff_eq, if_true] at g2
    have hlink := C.2.2.2.2.1 _ (mx_in _ (List.mem_map.mpr ⟨e1, g1, rfl⟩))
    rw [g2.1.1, g2.1.2] at hlink
    refine va_mmax C.1 C.2.1 (C.2.2.2.1.trans hl.1.symm) C.2.2.2.2.2.1 hlink (C.2.2.2.2.1 _ (mx_s _ (List.mem_map.mpr ⟨0, by decide, rfl⟩))) (C.2.2.2.2.1 _ (mx_i _ List.mem_cons_self)) (C.2.2.2.2.1 _ (mx_c _ (by decide +kernel))) hX.1 hrm hc2 hs2 (dOk_spec g2.2) ?_
    have e2 : (if Int32.ofInt a < Int32.ofInt b then Int32.ofInt b else Int32.ofInt a) = Int32.ofInt (imax a b) := by
      unfold imax
      simp only [i32_lt ha hb]
      split <;> rfl
    rw [e2]
    exact G
  · cases hn
theorem R_iminG {a b : Int} (hn : nxt (mC j) (mB j) pc (.dcmp .l) = some pc') (ha : in32 a) (hb : in32 b) (hr : st.length ≤ 4) (hX : 1 ≤ X.1.frames ∧ 64 ≤ X.1.locals) (hc2 : X.2.1 ≤ X.1.cells) (hs2 : X.2.2 ≤ X.1.slots) (hk : RnG X j pc' ls (.inl (imin a b) :: st) σ Y) : RnG X j pc ls (.inl b :: .inl a :: st) σ Y := by
  intro p l e s m args below meth c D dA ρ A H locs la C hl hP hD hS
  have G := hk p l e s m args below meth c D dA ρ A H locs la C hl hP hD hS
  have hrm : ((st.map (cv ρ)).map fun v => v.category).sum + 13 ≤ X.1.locals := by
    have := st_room (ρ := ρ) hr
    omega
  simp only [nxt, reduceCtorEq, if_false] at hn
  split at hn
  · rename_i h; cases hn
    obtain ⟨e1, g1, g2⟩ := List.any_eq_true.mp h
    simp only [Bool.and_eq_true, beq_iff_eq, reduceCtorEq, if_false] at g2
    have hlink := C.2.2.2.2.1 _ (mx_in _ (List.mem_map.mpr ⟨e1, g1, rfl⟩))
    rw [g2.1.1, g2.1.2] at hlink
    refine va_mmin C.1 C.2.1 (C.2.2.2.1.trans hl.1.symm) C.2.2.2.2.2.1 hlink (C.2.2.2.2.1 _ (mx_s _ (List.mem_map.mpr ⟨1, by decide, rfl⟩))) (C.2.2.2.2.1 _ (mx_i _ List.mem_cons_self)) (C.2.2.2.2.1 _ (mx_c _ (by decide +kernel))) hX.1 hrm hc2 hs2 (dOk_spec g2.2) ?_
    have e2 : (if Int32.ofInt b < Int32.ofInt a then Int32.ofInt b else Int32.ofInt a) = Int32.ofInt (imin a b) := by
      unfold imin
      simp only [i32_lt hb ha]
      split <;> rfl
    first
      | (rw [e2]; exact G)
      | (have e3 : (if Int32.ofInt a < Int32.ofInt b then Int32.ofInt a else Int32.ofInt b) = Int32.ofInt (imin a b) := by
           unfold imin
           simp only [i32_lt ha hb]
           split <;> split <;> first | rfl | (congr 1; omega)
         rw [e3]; exact G)
  · cases hn
end RULESA
/-! the world of cells, by its members -/
theorem rk_nd : rk.Nodup := by decide
theorem dom_in {σ : Mem} {q : Nat × Nat} : q ∈ dom σ ↔ isK q.1 = true ∧ q.2 < cnt σ q.1 := by
  constructor
  · intro h
    obtain ⟨K, hK, h2⟩ := List.mem_flatMap.mp h
    obtain ⟨i, hi, rfl⟩ := List.mem_map.mp h2
    refine ⟨?_, List.mem_range.mp hi⟩
    have : ∀ K ∈ rk, isK K = true := by decide
    exact this K hK
  · rintro ⟨h1, h2⟩
    exact dom_mem h1 h2
theorem dom_nd {σ : Mem} : (dom σ).Nodup := by
  unfold dom
  refine List.pairwise_flatMap.mpr ⟨fun K _ => ?_, ?_⟩
  · refine List.pairwise_map.mpr ?_
    refine List.Pairwise.imp (fun {a b} h e => h ?_) (List.nodup_range (n := cnt σ K))
    exact (Prod.mk.inj e).2
  · refine List.Pairwise.imp (fun {a b} h x hx y hy e => h ?_) rk_nd
    obtain ⟨i, -, rfl⟩ := List.mem_map.mp hx
    obtain ⟨i2, -, rfl⟩ := List.mem_map.mp hy
    exact (Prod.mk.inj e).1
theorem wldP_of {D : va_G} {dA : Nat → ClassId} {ρ : Rho} {σ : Mem} {H : Heap} (h : ∀ q ∈ dom σ, va_at D vwCl (ρ q.1 q.2, cel dA ρ σ q.1 q.2) H) : va_P D vwCl (wld dA ρ σ) H := by
  intro k x hx
  unfold wld at hx
  rw [List.getElem?_map] at hx
  cases hd : (dom σ)[k]? with
  | none => rw [hd] at hx; cases hx
  | some q =>
    rw [hd] at hx
    have := Option.some.inj hx
    rw [← this]
    exact h q (List.mem_of_getElem? hd)
theorem wldP_to {D : va_G} {dA : Nat → ClassId} {ρ : Rho} {σ : Mem} {H : Heap} (h : va_P D vwCl (wld dA ρ σ) H) {q : Nat × Nat} (hq : q ∈ dom σ) : va_at D vwCl (ρ q.1 q.2, cel dA ρ σ q.1 q.2) H := by
  obtain ⟨k, hk⟩ := List.getElem?_of_mem hq
  refine h k _ ?_
  unfold wld
  rw [List.getElem?_map, hk]
  rfl
theorem wldD_of {dA : Nat → ClassId} {ρ : Rho} {σ : Mem} {A : Nat → Prop} (h : ∀ q ∈ dom σ, ∀ q2 ∈ dom σ, ρ q.1 q.2 = ρ q2.1 q2.2 → q = q2) (hA : ∀ q ∈ dom σ, A (ρ q.1 q.2)) : va_D A (wld dA ρ σ) := by
  have at' : ∀ (k : Nat) (x : Nat × va_E), (wld dA ρ σ)[k]? = some x → ∃ q, (dom σ)[k]? = some q ∧ x = (ρ q.1 q.2, cel dA ρ σ q.1 q.2) := fun k x hx => by
    unfold wld at hx
    rw [List.getElem?_map] at hx
    cases hd : (dom σ)[k]? with
    | none => rw [hd] at hx; cases hx
    | some q =>
      rw [hd] at hx
      exact ⟨q, rfl, (Option.some.inj hx).symm⟩
  refine ⟨fun i k x y hx hy e => ?_, fun k x hx => ?_⟩
  · obtain ⟨q, h1, rfl⟩ := at' i x hx
    obtain ⟨q2, h2, rfl⟩ := at' k y hy
    have e2 := h q (List.mem_of_getElem? h1) q2 (List.mem_of_getElem? h2) e
    subst e2
    obtain ⟨l1, g1⟩ := List.getElem?_eq_some_iff.mp h1
    obtain ⟨l2, g2⟩ := List.getElem?_eq_some_iff.mp h2
    exact (List.getElem_inj dom_nd).mp (g1.trans g2.symm)
  · obtain ⟨q, h1, rfl⟩ := at' k x hx
    exact hA q (List.mem_of_getElem? h1)
theorem wldD_to {dA : Nat → ClassId} {ρ : Rho} {σ : Mem} {A : Nat → Prop} (h : va_D A (wld dA ρ σ)) : (∀ q ∈ dom σ, ∀ q2 ∈ dom σ, ρ q.1 q.2 = ρ q2.1 q2.2 → q = q2) ∧ ∀ q ∈ dom σ, A (ρ q.1 q.2) := by
  have at' : ∀ (k : Nat) (q : Nat × Nat), (dom σ)[k]? = some q → (wld dA ρ σ)[k]? = some (ρ q.1 q.2, cel dA ρ σ q.1 q.2) := fun k q hk => by
    unfold wld
    rw [List.getElem?_map, hk]
    rfl
  refine ⟨fun q hq q2 hq2 e => ?_, fun q hq => ?_⟩
  · obtain ⟨k, hk⟩ := List.getElem?_of_mem hq
    obtain ⟨k2, hk2⟩ := List.getElem?_of_mem hq2
    have := h.1 k k2 _ _ (at' k q hk) (at' k2 q2 hk2) e
    rw [this, hk2] at hk
    exact (Option.some.inj hk).symm
  · obtain ⟨k, hk⟩ := List.getElem?_of_mem hq
    exact h.2 k _ (at' k q hk)
