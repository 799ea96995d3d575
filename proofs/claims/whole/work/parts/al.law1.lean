/-! al: the skeleton's words (starting text); the law's end; answers in range -/
/-! THE CLAIM OUT OF ONE WALK OF THE LAW'S BODY. Your part is whole_start (and what it stands on); all else here is the same for every law, but numbers. -/
def R_law : String := "DebtBridgeLaw"
def lw_P (b : Addr) (xs : List Int32) (args : Array Value) (s : State) : Prop := args = #[.ref b] ∧ s.IntsAt b xs ∧ xs.length ≤ 3072 ∧ (Jvm.Cond.and given_1 narrow_1).before args s = true
def lw_Q (_ : Array Value) (s : State) (o : Outcome) (t : State) : Prop := o = .returned (some (.int 1)) ∧ Framed s o t [] 600000 7302250
def lw_Z (below : List Frame) (a : Array Value) (s : State) : State → Prop := fun t => ∃ o, t.status = .running ∧ Ended t below o ∧ lw_Q a s o t
/-- the law's own end, with 1 on the stack, nothing written that was there before, its room as the claim has it -/
theorem lw_ret {p : Program} {l : Launch} {e : Env} {s : State} {m : MethodId} {below : List Frame} {meth : Method} {c : Code} {b : Nat} (hx : p.tables.exec = Jvm.exec) (hb : c.code = code) (hr : meth.sig.returnType = ret) (hlocks : meth.locks = false) {pc : Nat} {H : Heap} {ls : Array Slot} (hdg : decode code pc = .ok (.ireturn, 1)) : W p l e room_1 s m #[Value.ref b] below meth c H [] 600000 7302250 (lw_Z below #[Value.ref b] s) (F0 m pc ls [.int 1]) := by
  intro T hT X
  obtain ⟨fs, hret, hrun, hended, hW, hframe⟩ := X.leave (v := some (.int 1)) (hlocks := hlocks) (fun h => by rw [hr] at h; cases h)
  have hmeth' : T.vm.method? m = some meth := X.method'
  refine ⟨T.setFrames fs, ?_, .returned (some (.int 1)), hrun, hended, rfl, ⟨_, rfl⟩, hW, hframe⟩
  jvm_step X.here [X.here.top, hx, hb, hdg, hmeth', hr, ret, narrow_b1]
  (try refine ⟨rfl, ?_⟩); (try refine ⟨rfl, ?_⟩)
  first | (intro acts; rw [hret _ acts rfl rfl rfl]) | rw [hret _ _ rfl rfl rfl]
  exact Steps.refl _
/-- what holds at the law's entry: the machine, the code, the tables' words (any of lw_tbl by 'hts w (by decide +kernel)'), the script of L ints xs at the cell b, what the Statement gives of the start (any of its parts by flat_of_before) -/
def lw_At (p : Program) (s : State) (m : MethodId) (meth : Method) (c : Code) (b L : Nat) (xs : Nat → Int32) : Prop :=
  p.tables.exec = Jvm.exec ∧ c.code = code ∧ meth.sig.returnType = ret ∧ c.maxLocals = 4 ∧ s.vm.findClass R_law = some m.cls ∧ (∀ w ∈ lw_tbl, w.before #[Value.ref b] s = true) ∧ va_X b L xs s s.heap ∧ b < s.heap.size ∧ meth.locks = false ∧ (Jvm.Cond.and given_1 narrow_1).before #[Value.ref b] s = true

section LAW1
variable {XL : Nat} {XS : Int → Int} {d : Nat} {σ : Mem} {K : Option AV → Mem → Prop}
/-- where the law is to come -/
def YL (XL : Nat) (XS : Int → Int) : YQ := fun below args s _ _ ρ A t => SC s → SX XL XS ρ s A → (∀ q, A q → s.heap.size ≤ q) → args = #[Value.ref (ρ 65 0)] → lw_Z below args s t
def TL : Nat → Nat → Option AV → Mem → Prop := fun c s r _ => r = some (.inl 1) ∧ c ≤ 600000 ∧ s ≤ 7302250
theorem YL_mn : mnY (YL XL XS) := by
  intro below args s D dA ρ ρ' A t he h g1 g2 g3 g4
  have e65 : ρ' 65 0 = ρ 65 0 := he 65 0 (by omega)
  refine h g1 ?_ g3 (by rw [e65]; exact g4)
  unfold SX at g2 ⊢
  rw [e65]
  exact g2
theorem YL_sc : scY (YL XL XS) := fun _ _ _ _ _ _ _ _ h x => absurd x h
theorem YL_sx (h : XL < 2147483648) : sxY XL XS (YL XL XS) := ⟨h, fun _ _ _ _ _ _ _ _ h _ x => absurd x h⟩
theorem m_315 : mB 315 = code ∧ mR 315 = ret ∧ mL 315 = 4 ∧ cnm (mC 315) = R_law := ⟨rfl, rfl, rfl, rfl⟩
theorem L_ret {c s pc : Nat} {ls : List AV} (hdg : decode (mB 315) pc = .ok (.ireturn, 1)) (hc : c ≤ 600000) (hs : s ≤ 7302250) : RnG (room_1, c, s) 315 pc ls [.inl 1] σ (YL XL XS) := by
  intro p l e s0 m args below meth c0 D dA ρ A H locs la C hl hP hD hS
  by_cases h : args = #[Value.ref (ρ 65 0)] ∧ ∀ q, A q → s0.heap.size ≤ q
  · obtain ⟨rfl, hA⟩ := h
    have K : W p l e room_1 s0 m #[Value.ref (ρ 65 0)] below meth c0 H locs c s (lw_Z below #[Value.ref (ρ 65 0)] s0) (F0 m pc la [.int 1]) := by
      refine va_forget (fun q hq => hA _ (hS.2.2 q hq)) ?_
      refine W_wide hc hs ?_
      exact lw_ret C.1 (C.2.1.trans m_315.1) (C.2.2.1.trans m_315.2.1) C.2.2.2.2.2.2.1 (by rw [← m_315.1]; exact hdg)
    intro T hT X
    obtain ⟨t, a1, b1⟩ := K T hT X
    exact ⟨t, a1, fun _ _ _ _ => b1⟩
  · intro T hT X
    exact ⟨_, Steps.refl _, fun _ _ g1 g2 => absurd ⟨g2, g1⟩ h⟩
theorem l_LAW {c s t : Nat} {is : List Instr} {ls st : List AV} (hi : boA (mC 315) (mB 315) (mL 315) t is = true) (hd : d ≤ 1000) (hc : c ≤ 600000) (hs : s ≤ 7302250) (h : wpA room_1 (d + 120) 315 b_LAW (YL XL XS) TL XL XS 400 is c s ls st σ) : RnG (room_1, c, s) 315 t ls st σ (YL XL XS) :=
  wpA_ok ⟨by show d + 120 + 1 ≤ 2048; omega, by show 64 * (d + 120 + 1) ≤ 84000; omega, by show 3 ≤ 2048; decide, by show 192 ≤ 84000; decide⟩ YL_mn YL_sc (fun c s pc ls a σ hd h => by
    obtain ⟨h1, h2, h3⟩ := h
    have : a = 1 := Sum.inl.inj (Option.some.inj h1)
    subst this
    exact L_ret hd h2 h3) (fun c s pc ls v σ hd h => by
    obtain ⟨h1, h2, h3⟩ := h
    cases h1) k_LAW 400 _ t c s _ _ _ hi hc hs h
/-- an answer, in its range -/
def nrm (r : Option AV) : Option AV := match r with
  | some (.inl a) => some (.inl (a.bmod 4294967296))
  | some (.inr (.inl a)) => some (.inr (.inl (a.bmod 18446744073709551616)))
  | r => r
theorem nrm_cv {ρ : Rho} {r : Option AV} : (nrm r).map (cv ρ) = r.map (cv ρ) := by
  rcases r with _ | z | z | v
  · rfl
  · show some (Value.int (Int32.ofInt (z.bmod 4294967296))) = some (Value.int (Int32.ofInt z))
    rw [i32_mod]
  · show some (Value.long (Int64.ofInt (z.bmod 18446744073709551616))) = some (Value.long (Int64.ofInt z))
    rw [i64_mod]
  · rfl
theorem Ev.mn {f j : Nat} {av : List AV} {K2 : Option AV → Mem → Prop} (h : Ev f j av σ K) (hk : ∀ r σ, K r σ → K2 (nrm r) σ) : Ev f j av σ K2 := by
  intro l D dA ρ sz p e h1 h2 h3 s m args below h4 h5 h6 h7
  obtain ⟨n, o, a, b, c, ⟨⟨r9, σ', q1, q3, q4⟩, q5⟩, r⟩ := h l D dA ρ sz p e h1 h2 h3 s m args below h4 h5 h6 h7
  exact ⟨n, o, a, b, c, ⟨⟨nrm r9, σ', by rw [nrm_cv]; exact q1, hk _ _ q3, q4⟩, q5⟩, r⟩
theorem EvA.mn {f mc ms j : Nat} {av : List AV} {K2 : Option AV → Mem → Prop} (h : EvA f mc ms j av σ K) (hk : ∀ r σ, K r σ → K2 (nrm r) σ) : EvA f mc ms j av σ K2 := by
  intro l D dA ρ sz p e h1 h2 h3 s m args below h4 h5 h6 h7
  obtain ⟨n, o, a, b, c, ⟨⟨r9, ρ', σ', q1, q2, q3, q4⟩, q5⟩, r⟩ := h l D dA ρ sz p e h1 h2 h3 s m args below h4 h5 h6 h7
  exact ⟨n, o, a, b, c, ⟨⟨nrm r9, ρ', σ', q1, by rw [nrm_cv]; exact q2, hk _ _ q3, q4⟩, q5⟩, r⟩
theorem nrm_32 (a : Int) : in32 (a.bmod 4294967296) := by
  have := Int.bmod_lt (x := a) (m := 4294967296) (by decide)
  have := Int.le_bmod (x := a) (m := 4294967296) (by decide)
  unfold in32
  omega
theorem nrm_64 (a : Int) : in64 (a.bmod 18446744073709551616) := by
  have := Int.bmod_lt (x := a) (m := 18446744073709551616) (by decide)
  have := Int.le_bmod (x := a) (m := 18446744073709551616) (by decide)
  unfold in64
  omega
def NBi (f jr : Nat) (bv : List AV) (G : Mem → Prop) : Option AV → Mem → Prop := fun r σ1 => Ev f jr bv σ1 (fun r' σ2 => ∃ v : Int, in32 v ∧ r = some (.inl v) ∧ r' = some (.inl v) ∧ G σ2)
def NBl (f jr : Nat) (bv : List AV) (G : Mem → Prop) : Option AV → Mem → Prop := fun r σ1 => Ev f jr bv σ1 (fun r' σ2 => ∃ v : Int, in64 v ∧ r = some (.inr (.inl v)) ∧ r' = some (.inr (.inl v)) ∧ G σ2)
theorem NBi_of {f jr : Nat} {bv : List AV} {G : Mem → Prop} {r : Option AV} {σ1 : Mem} (g : Ev f jr bv σ1 (fun r' σ2 => ∃ v : Int, r = some (.inl v) ∧ r' = some (.inl v) ∧ G σ2)) : NBi f jr bv G (nrm r) σ1 := g.mn (fun r' σ2 h => by
  obtain ⟨v, rfl, rfl, h3⟩ := h
  exact ⟨_, nrm_32 v, rfl, rfl, h3⟩)
theorem Bth.n {f jc jr : Nat} {av bv : List AV} {G : Mem → Prop} (h : Bth f jc jr av bv σ G) : Ev f jc av σ (NBi f jr bv G) := Ev.mn h (fun r σ1 g => NBi_of g)
theorem BthA.n {f jc jr : Nat} {av bv : List AV} {G : Mem → Prop} (h : BthA f jc jr av bv σ G) : EvA f 906 960 jc av σ (NBi f jr bv G) := EvA.mn h (fun r σ1 g => NBi_of g)
theorem BthL.n {f jc jr : Nat} {av bv : List AV} {G : Mem → Prop} (h : BthL f jc jr av bv σ G) : Ev f jc av σ (NBl f jr bv G) := Ev.mn h (fun r σ1 g => Ev.mn g (fun r' σ2 h => by
  obtain ⟨v, rfl, rfl, h3⟩ := h
  exact ⟨_, nrm_64 v, rfl, rfl, h3⟩))
theorem psh_len {r : Option AV} : (psh r []).length ≤ 4 := by cases r <;> simp [psh]
theorem psh_len1 {r : Option AV} : (psh r []).length ≤ 1 := by cases r <;> simp [psh]
end LAW1
theorem bl_LAW_18 : b_LAW 18 = [.goto_w 18] := rfl
theorem bl_LAW_228 : b_LAW 228 = [.goto_w 228] := rfl
theorem bl_LAW_291 : b_LAW 291 = [.goto_w 291] := rfl
theorem bl_LAW_314 : b_LAW 314 = [.goto_w 314] := rfl
theorem bl_LAW_337 : b_LAW 337 = [.goto_w 337] := rfl
theorem bl_LAW_370 : b_LAW 370 = [.goto_w 370] := rfl
theorem bl_LAW_403 : b_LAW 403 = [.goto_w 403] := rfl
theorem bl_LAW_436 : b_LAW 436 = [.goto_w 436] := rfl
theorem bl_LAW_459 : b_LAW 459 = [.goto_w 459] := rfl
theorem bl_LAW_477 : b_LAW 477 = [.goto_w 477] := rfl
theorem bl_LAW_478 : b_LAW 478 = [.goto_w 478] := rfl
theorem bl_LAW_499 : b_LAW 499 = [.goto_w 499] := rfl
theorem bl_LAW_500 : b_LAW 500 = [.goto_w 500] := rfl
theorem bl_LAW_508 : b_LAW 508 = [.goto_w 508] := rfl
theorem bl_LAW_541 : b_LAW 541 = [.goto_w 541] := rfl
theorem bl_LAW_574 : b_LAW 574 = [.goto_w 574] := rfl
theorem bl_LAW_597 : b_LAW 597 = [.goto_w 597] := rfl
theorem bl_LAW_620 : b_LAW 620 = [.goto_w 620] := rfl
theorem bl_LAW_643 : b_LAW 643 = [.goto_w 643] := rfl
theorem bl_LAW_666 : b_LAW 666 = [.goto_w 666] := rfl
theorem bl_LAW_699 : b_LAW 699 = [.goto_w 699] := rfl
theorem bl_LAW_722 : b_LAW 722 = [.goto_w 722] := rfl
theorem bl_LAW_755 : b_LAW 755 = [.goto_w 755] := rfl
theorem bl_LAW_778 : b_LAW 778 = [.goto_w 778] := rfl
theorem bl_LAW_791 : b_LAW 791 = [.goto_w 791] := rfl
theorem bl_LAW_824 : b_LAW 824 = [.goto_w 824] := rfl
theorem bl_LAW_847 : b_LAW 847 = [.goto_w 847] := rfl
theorem bl_LAW_880 : b_LAW 880 = [.goto_w 880] := rfl
theorem bl_LAW_903 : b_LAW 903 = [.goto_w 903] := rfl
theorem bl_LAW_936 : b_LAW 936 = [.goto_w 936] := rfl
theorem bl_LAW_959 : b_LAW 959 = [.goto_w 959] := rfl
theorem bl_LAW_972 : b_LAW 972 = [.goto_w 972] := rfl
theorem bl_LAW_985 : b_LAW 985 = [.goto_w 985] := rfl
theorem bl_LAW_998 : b_LAW 998 = [.goto_w 998] := rfl
theorem bl_LAW_1021 : b_LAW 1021 = [.goto_w 1021] := rfl
theorem bl_LAW_1034 : b_LAW 1034 = [.goto_w 1034] := rfl
theorem bl_LAW_1047 : b_LAW 1047 = [.goto_w 1047] := rfl
theorem bl_LAW_1070 : b_LAW 1070 = [.goto_w 1070] := rfl
theorem bl_LAW_1103 : b_LAW 1103 = [.goto_w 1103] := rfl
theorem bl_LAW_1116 : b_LAW 1116 = [.goto_w 1116] := rfl
theorem bl_LAW_1139 : b_LAW 1139 = [.goto_w 1139] := rfl
theorem bl_LAW_1172 : b_LAW 1172 = [.goto_w 1172] := rfl
theorem bl_LAW_1195 : b_LAW 1195 = [.goto_w 1195] := rfl
theorem bl_LAW_1239 : b_LAW 1239 = [.goto_w 1239] := rfl
theorem bl_LAW_1272 : b_LAW 1272 = [.goto_w 1272] := rfl
theorem bl_LAW_1315 : b_LAW 1315 = [.goto_w 1315] := rfl
theorem bl_LAW_1389 : b_LAW 1389 = [.goto_w 1389] := rfl
theorem bl_LAW_1412 : b_LAW 1412 = [.goto_w 1412] := rfl
theorem bl_LAW_1435 : b_LAW 1435 = [.goto_w 1435] := rfl
theorem bl_LAW_1458 : b_LAW 1458 = [.goto_w 1458] := rfl
theorem bl_LAW_1481 : b_LAW 1481 = [.goto_w 1481] := rfl
