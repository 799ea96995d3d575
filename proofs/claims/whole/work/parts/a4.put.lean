/-! a4: a law comes into a plan: copyOf, then putfield -/
def cpyM (σ : Mem) (Kd k n : Nat) : Mem := fun K i j => if K = 61 ∧ i = Kd ∧ j = k then (n : Int) else if K = Kd ∧ i = k then (if j < n then σ 26 0 j else 0) else σ K i j
def rhoC (ρ : Rho) (Kd k q : Nat) : Rho := fun K i => if K = Kd ∧ i = k then q else ρ K i
theorem va_D_snoc {A : Nat → Prop} {ws : va_W} {q : Nat} {ev : va_E} (h : va_D A ws) (hq : A q) (hn : ∀ (k : Nat) (x : Nat × va_E), ws[k]? = some x → ¬ x.1 = q) : va_D A (ws ++ [(q, ev)]) := by
  have at' : ∀ (k : Nat) (x : Nat × va_E), (ws ++ [(q, ev)])[k]? = some x → (k < ws.length ∧ ws[k]? = some x) ∨ (k = ws.length ∧ x = (q, ev)) := fun k x hx => by
    by_cases hk : k < ws.length
    · rw [List.getElem?_append_left hk] at hx
      exact Or.inl ⟨hk, hx⟩
    · rw [List.getElem?_append_right (by omega)] at hx
      have hz := (List.getElem?_eq_some_iff.mp hx).1
      simp at hz
      have e9 : k - ws.length = 0 := by omega
      rw [e9] at hx
      exact Or.inr ⟨by omega, (Option.some.inj hx).symm⟩
  refine ⟨fun i k x y hx hy e => ?_, fun k x hx => ?_⟩
  · rcases at' i x hx with ⟨h1, h2⟩ | ⟨h1, rfl⟩
    · rcases at' k y hy with ⟨g1, g2⟩ | ⟨g1, rfl⟩
      · exact h.1 i k x y h2 g2 e
      · exact absurd e (hn i x h2)
    · rcases at' k y hy with ⟨g1, g2⟩ | ⟨g1, rfl⟩
      · exact absurd e.symm (hn k y g2)
      · omega
  · rcases at' k x hx with ⟨h1, h2⟩ | ⟨h1, rfl⟩
    · exact h.2 k x h2
    · exact hq
theorem wld_ix {dA : Nat → ClassId} {ρ : Rho} {σ : Mem} {q : Nat × Nat} (h : q ∈ dom σ) : ∃ k : Nat, (dom σ)[k]? = some q ∧ (wld dA ρ σ)[k]? = some (ρ q.1 q.2, cel dA ρ σ q.1 q.2) := by
  obtain ⟨k, hk⟩ := List.getElem?_of_mem h
  refine ⟨k, hk, ?_⟩
  unfold wld
  rw [List.getElem?_map, hk]
  rfl
theorem tX3 {sl : Nat} (h : sl = 3 ∨ sl = 4) : parseFieldDescriptor (tX 3 sl).2.2.1 = some (.array .int) ∧ (tX 3 sl).2.2.2 = false ∧ sl < nX 3 ∧ (fds 3)[sl]? = some (3, 21 + sl, 1, 0) := by
  rcases h with rfl | rfl
  · exact ⟨by decide +kernel, by decide +kernel, by decide +kernel, by decide +kernel⟩
  · exact ⟨by decide +kernel, by decide +kernel, by decide +kernel, by decide +kernel⟩
theorem fds3 : ∀ s : Fin 40, ∀ t : Fin 40, (match (fds 3)[s.val]?, (fds 3)[t.val]? with
  | some a, some b => a.1 != 3 || b.1 != 3 || a.2.1 != b.2.1 || s.val == t.val
  | _, _ => true) = true := by decide
theorem fds3n : ∀ s : Fin 40, (match (fds 3)[s.val]? with
  | some a => a.1 != 4
  | none => true) = true := by decide
/-- the plan's own cell, with another array -/
theorem cel_3 {dA : Nat → ClassId} {ρ : Rho} {σ : Mem} {Kd k n q sl : Nat} (hsl : sl = 3 ∨ sl = 4) (hkd : Kd = 21 + sl) : cel dA (rhoC ρ Kd k q) (cpyM σ Kd k n) 3 k = .inr (3, ((fds 3).mapIdx (fun s fd => fvl ρ σ 3 k s fd)).set sl (.ref q)) := by
  obtain ⟨t1, t2, t3, t4⟩ := tX3 hsl
  have hm : ∀ c, cpyM σ Kd k n 3 k c = σ 3 k c := fun c => by
    unfold cpyM
    rw [if_neg (by omega), if_neg (by omega)]
  have hc : cel dA (rhoC ρ Kd k q) (cpyM σ Kd k n) 3 k = .inr (3, (fds 3).mapIdx (fun s fd => fvl (rhoC ρ Kd k q) (cpyM σ Kd k n) 3 k s fd)) := rfl
  rw [hc]
  have hl : (fds 3).mapIdx (fun s fd => fvl (rhoC ρ Kd k q) (cpyM σ Kd k n) 3 k s fd) = ((fds 3).mapIdx (fun s fd => fvl ρ σ 3 k s fd)).set sl (.ref q) := by
    apply List.ext_getElem?
    intro i
    rw [List.getElem?_set, List.getElem?_mapIdx, List.getElem?_mapIdx, List.length_mapIdx]
    by_cases h : sl = i
    · subst h
      have hlt : sl < (fds 3).length := (List.getElem?_eq_some_iff.mp t4).1
      rw [if_pos rfl, if_pos hlt, t4]
      show some (Value.ref (rhoC ρ Kd k q (21 + sl) (1 * k + 0))) = some (Value.ref q)
      rw [Nat.one_mul, Nat.add_zero]
      unfold rhoC
      rw [if_pos ⟨hkd.symm, rfl⟩]
    · rw [if_neg h]
      cases hn : (fds 3)[i]? with
      | none => rfl
      | some fd =>
        have hi40 : i < 40 := Nat.lt_of_lt_of_le (List.getElem?_eq_some_iff.mp hn).1 (fds_len 3 (by decide))
        have hd := fds3 ⟨sl, by omega⟩ ⟨i, hi40⟩
        simp only [t4, hn, Bool.or_eq_true, bne_iff_ne, ne_eq, beq_iff_eq] at hd
        simp only [Option.map_some, fvl, hm]
        by_cases f3 : fd.1 = 3
        · rw [if_pos f3, if_pos f3]
          have hne : ¬ fd.2.1 = Kd := fun x => by
            rcases hd with ((hd | hd) | hd) | hd
            · exact hd trivial
            · exact hd f3
            · exact hd (by rw [x]; exact hkd.symm)
            · exact h hd
          unfold rhoC
          rw [if_neg (fun x => hne x.1)]
        · rw [if_neg f3, if_neg f3]
          by_cases f4 : fd.1 = 4
          · exfalso
            have hf := fds3n ⟨i, hi40⟩
            rw [show ((fds 3)[(⟨i, hi40⟩ : Fin 40).val]?) = some fd from hn] at hf
            exact bne_iff_ne.mp hf f4
          · rw [if_neg f4, if_neg f4]
  rw [hl]
section PUT
variable {X : XR} {Y : YQ} {j pc : Nat} {ls st : List AV} {σ : Mem}
set_option maxHeartbeats 4000000 in
theorem R_cpy {k n sl w o Kd : Nat} (ho : mC j = o) (ho4 : o = 4) (h1 : decode (mB j) pc = .ok (.invokestatic 190, 3)) (h2 : decode (mB j) (pc + 3) = .ok (.putfield w, 3)) (hw : (o, w, 3, sl) ∈ FLN) (hsl : sl = 3 ∨ sl = 4) (hkd : Kd = 21 + sl) (hk : k < npl σ) (hn : n < 900) (hm1 : mnY Y) (hnl : nrl ls = true) (hns : nrl st = true) (hst : st.length ≤ 3) (hX : 3 ≤ X.1.frames ∧ 192 ≤ X.1.locals) (hc : X.2.1 + 1 ≤ X.1.cells) (hs : X.2.2 + n ≤ X.1.slots)
    (hkk : RnG (X.1, X.2.1 + 1, X.2.2 + n) j (pc + 6) ls st (cpyM σ Kd k n) Y) : RnG X j pc ls (.inl (n : Int) :: .inr (.inr (some (26, 0))) :: .inr (.inr (some (3, k))) :: st) σ Y := by
  intro p l e s m args below meth c D dA ρ A H locs la C hl hP hD hS
  have hts := C.2.2.2.2.1
  have hK := C.2.2.2.2.2.2.2.1
  have hA := C.2.2.2.2.2.2.2.2.1
  have hown : s.vm.findClass (cnm o) = some m.cls := by rw [← ho]; exact C.2.2.2.2.2.1
  obtain ⟨t1, t2, t3, t4⟩ := tX3 hsl
  obtain ⟨d1, d2⟩ := wldD_to hD
  have hd26 : ((26 : Nat), (0 : Nat)) ∈ dom σ := dom_mem (by decide) (show 0 < 1 by decide)
  have hd3 : ((3 : Nat), k) ∈ dom σ := dom_mem (by decide) (by show k < npl σ; exact hk)
  generalize hf : (fun i => Int32.ofInt (σ 26 0 i)) = f
  have hc26 : cel dA ρ σ 26 0 = .inl (dA 0, 900, .inl f) := by rw [← hf]; rfl
  have hlt : ∀ qq ∈ dom σ, ρ qq.1 qq.2 < H.size := fun qq hqq => (wldP_to hP hqq).lt
  have hP26 : va_P D vwCl [(ρ 26 0, .inl (dA 0, 900, .inl f))] H := by
    intro k9 x hx
    have hz : k9 = 0 := by
      have := (List.getElem?_eq_some_iff.mp hx).1
      simp at this
      omega
    subst hz
    cases hx
    have := wldP_to hP hd26
    rw [hc26] at this
    exact this
  have hgood : GoodIn tbg (Cond.code yCO cCO 3 (some (.array .int)) :: tbg) := by
    intro w hw
    have h : w ∈ tbg := by
      rcases List.mem_cons.mp hw with rfl | h
      · exact co_in
      · exact h
    exact ⟨h, good_of_word (List.mem_filter.mp h).2⟩
  have hp : FrameBlind (va_Pc [.ref (ρ 26 0), .int (Int32.ofInt (n : Int))] (fun U => U.heap.size = H.size ∧ va_P D vwCl [(ρ 26 0, .inl (dA 0, 900, .inl f))] U.heap ∧ va_K D vwCl (tys dA) U)) ∧ ∀ U : State, U.heap = H → s.WarmedH U.vm → va_Pc [.ref (ρ 26 0), .int (Int32.ofInt (n : Int))] (fun U => U.heap.size = H.size ∧ va_P D vwCl [(ρ 26 0, .inl (dA 0, 900, .inl f))] U.heap ∧ va_K D vwCl (tys dA) U) ([Value.ref (ρ 26 0), .int (Int32.ofInt (n : Int))].toArray) U := by
    refine ⟨fun a U g mk w => ?_, fun U hU hW => ⟨rfl, by rw [hU], by rw [hU]; exact hP26, va_K.moved hW.alike hK⟩⟩
    obtain ⟨q0, q1, qP, qK⟩ := w
    exact ⟨q0, q1, qP, va_K.moved (u := U) (U := U.calling g mk a) (Vm.Alike.refl U.vm) qK⟩
  have hM9 := c_copyOf l D dA (ρ 26 0) H.size n f hn
  have hlk : (Cond.methodLink (cnm o) 190 yCO).before args s = true := by rw [ho4]; exact hts _ co_lk
  have hcb : CallB X.1 s args (cnm o) 190 yCO cCO 3 (some (.array .int)) (Cond.code yCO cCO 3 (some (.array .int)) :: tbg) (rmC 2 1 n) 1 n 2 := callB_of 2 hts hgood rfl rfl rfl (by rw [co_nm.2.1]; exact hts _ co_ar) hlk ⟨co_nm.2.2.1, co_nm.2.2.2.1, co_nm.2.2.2.2⟩ ⟨hX.1, Nat.le_trans (Nat.le_of_ble_eq_true rfl) hX.2⟩
  have hrm9 : ((Value.ref (ρ 3 k) :: st.map (cv ρ)).map fun v => v.category).sum ≤ 8 := by
    have h8 : ∀ (st : List AV), ((st.map (cv ρ)).map fun v => v.category).sum ≤ 2 * st.length := by
      intro st
      induction st with
      | nil => simp
      | cons v r ih =>
        have : (cv ρ v).category ≤ 2 := by rw [isL_cat]; split <;> omega
        simp only [List.map_cons, List.sum_cons, List.length_cons]
        omega
    have := h8 st
    simp only [List.map_cons, List.sum_cons]
    have e9 : (Value.ref (ρ 3 k)).category = 1 := rfl
    omega
  have run : va_Run p l e X.1 s m args below meth c H locs X.2.1 X.2.2 1 n (F0 m pc la (.int (Int32.ofInt (n : Int)) :: .ref (ρ 26 0) :: .ref (ρ 3 k) :: st.map (cv ρ))) (.ref (ρ 3 k) :: st.map (cv ρ)) (QCO D dA (ρ 26 0) H.size n f ([Value.ref (ρ 26 0), .int (Int32.ofInt (n : Int))].toArray)) (va_A [(ρ 26 0, .inl (dA 0, 900, .inl f))] H.size) :=
    va_runS (own := cnm o) (As := [.ref (ρ 26 0), .int (Int32.ofInt (n : Int))]) ⟨C.1, C.2.1, C.2.2.2.1, hown, hts⟩ hM9 ⟨hcb, hts _ co_st⟩ hp rfl rfl hl.1 rfl (lv_room hrm9) h1 ⟨hc, hs⟩
  show W p l e X.1 s m args below meth c H locs X.2.1 X.2.2 (Y below args s D dA ρ A) (F0 m pc la (.int (Int32.ofInt (n : Int)) :: .ref (ρ 26 0) :: .ref (ρ 3 k) :: st.map (cv ρ)))
  intro T hT X9
  obtain ⟨v, st₀, t, T', L, h0, X', hL, e1, e2, ⟨⟨q, hv, hqs, hP', hK'⟩, hz, hke⟩, stp⟩ := run T hT X9
  cases hv
  rw [h0] at hz hke
  rw [← e1] at hP' hz hke
  have hA1 : ∀ x : Nat, va_A [(ρ 26 0, (.inl (dA 0, 900, .inl f) : va_E))] H.size x → x = ρ 26 0 ∨ H.size ≤ x := by
    rintro x (⟨k9, e9, h9⟩ | h9)
    · left
      have hz0 : k9 = 0 := by
        have := (List.getElem?_eq_some_iff.mp h9).1
        simp at this
        omega
      subst hz0
      exact (Prod.mk.inj (Option.some.inj h9)).1.symm
    · exact Or.inr h9
  have hAA : ∀ x : Nat, va_A [(ρ 26 0, (.inl (dA 0, 900, .inl f) : va_E))] H.size x → A x := fun x hx => by
    rcases hA1 x hx with rfl | h9
    · exact d2 _ hd26
    · exact hA x (Nat.le_trans hS.1 h9)
  have hold : ∀ qq ∈ dom σ, va_at D vwCl (ρ qq.1 qq.2, cel dA ρ σ qq.1 qq.2) T'.heap := fun qq hqq => by
    by_cases ha : va_A [(ρ 26 0, (.inl (dA 0, 900, .inl f) : va_E))] H.size (ρ qq.1 qq.2)
    · have h9 := hlt qq hqq
      rcases hA1 _ ha with x | x
      · have e9 := d1 qq hqq _ hd26 x
        subst e9
        show va_at D vwCl (ρ 26 0, cel dA ρ σ 26 0) T'.heap
        rw [hc26]
        exact hP' 0 _ rfl
      · omega
    · exact (wldP_to hP hqq).kept (hke _ (hlt qq hqq) ha)
  have hPs : va_P D vwCl (wld dA ρ σ ++ [(q, .inl (dA 0, n, .inl (va_cpy f (fun _ => Int32.ofInt 0) 0 0 n)))]) T'.heap := by
    intro k9 x hx
    by_cases hk9 : k9 < (wld dA ρ σ).length
    · rw [List.getElem?_append_left hk9] at hx
      exact (wldP_of hold) k9 x hx
    · rw [List.getElem?_append_right (by omega)] at hx
      have hz9 := (List.getElem?_eq_some_iff.mp hx).1
      simp at hz9
      have e9 : k9 - (wld dA ρ σ).length = 0 := by omega
      rw [e9] at hx
      cases hx
      exact hP' 1 _ rfl
  have hqA : A q := hA q (Nat.le_trans hS.1 hqs)
  have hDs : va_D A (wld dA ρ σ ++ [(q, (.inl (dA 0, n, .inl (va_cpy f (fun _ => Int32.ofInt 0) 0 0 n)) : va_E))]) := va_D_snoc hD hqA (fun k9 x hx h9 => by
    have := (hP k9 x hx).lt
    omega)
  have hSs : va_S A s.heap T'.heap (locs ++ L) := ⟨Nat.le_trans hS.1 hz, fun x g8 g9 => by rw [hke x (Nat.lt_of_lt_of_le g8 hS.1) (fun z => g9 (hAA x z))]; exact hS.2.1 x g8 g9, fun x hx9 => by
        rcases List.mem_append.mp hx9 with h | h
        · exact hS.2.2 x h
        · exact hAA _ (hL x h)⟩
  obtain ⟨i3, hi3, hw3⟩ := wld_ix (dA := dA) (ρ := ρ) hd3
  have hi3l : i3 < (wld dA ρ σ).length := (List.getElem?_eq_some_iff.mp hw3).1
  have hw3' : (wld dA ρ σ ++ [(q, (.inl (dA 0, n, .inl (va_cpy f (fun _ => Int32.ofInt 0) 0 0 n)) : va_E))])[i3]? = some (ρ 3 k, .inr (3, (fds 3).mapIdx (fun s fd => fvl ρ σ 3 k s fd))) := by
    rw [List.getElem?_append_left hi3l]
    exact hw3
  obtain ⟨g1, g2, g3, g4⟩ := cl_at (ci := 3) (by decide)
  have hlink := va_Nw.use (A := args) rfl (C.2.2.2.2.2.2.2.2.2.1 _ hw)
  have hlen : sl < ((fds 3).mapIdx (fun s fd => fvl ρ σ 3 k s fd)).length := by rw [List.length_mapIdx]; exact (List.getElem?_eq_some_iff.mp t4).1
  have he : ext ρ (rhoC ρ Kd k q) := fun K i hK9 => by
    unfold rhoC
    rw [if_neg (fun x => hK9 (by omega))]
  have G : W p l e X.1 s m args below meth c T'.heap (locs ++ L) (X.2.1 + 1) (X.2.2 + n) (Y below args s D dA ρ A) (F0 m (pc + 3) la (.ref q :: .ref (ρ 3 k) :: st.map (cv ρ))) := by
    refine va_putN (C := cnm 3) (T := tX 3) (N := nX 3) (own := cnm o) (index := w) (ci := 3) C.1 C.2.1 hts g2 (tyX 3) g3 g4 hown hK hPs hDs hSs i3 hw3' g1 sl t3 hlink (fun _ h9 => h9) t2 t1 rfl rfl hlen h2 (fun H1 locs1 hP1 hD1 hS1 => ?_)
    have hset : ∀ qq ∈ dom σ, ¬ (qq.1 = 3 ∧ qq.2 = k) → va_at D vwCl (ρ qq.1 qq.2, cel dA ρ σ qq.1 qq.2) H1 := fun qq hqq hne => by
      obtain ⟨i9, hi9, hw9⟩ := wld_ix (dA := dA) (ρ := ρ) hqq
      have hi9l : i9 < (wld dA ρ σ).length := (List.getElem?_eq_some_iff.mp hw9).1
      refine hP1 i9 _ ?_
      rw [List.getElem?_set, if_neg (fun x => ?_), List.getElem?_append_left hi9l]
      · exact hw9
      · rw [← x, hi3] at hi9
        have := Option.some.inj hi9
        rw [← this] at hne
        exact hne ⟨rfl, rfl⟩
    have hdm : ∀ qq, qq ∈ dom (cpyM σ Kd k n) ↔ qq ∈ dom σ := fun qq => by
      have e60 : cpyM σ Kd k n 60 0 0 = σ 60 0 0 := by
        unfold cpyM
        rw [if_neg (by omega), if_neg (by omega)]
      rw [dom_in, dom_in]
      unfold cnt
      rw [e60]
    have ro : ∀ qq : Nat × Nat, ¬ (qq.1 = Kd ∧ qq.2 = k) → rhoC ρ Kd k q qq.1 qq.2 = ρ qq.1 qq.2 := fun qq h => by
      unfold rhoC
      rw [if_neg h]
    have rn : rhoC ρ Kd k q Kd k = q := by
      unfold rhoC
      rw [if_pos ⟨rfl, rfl⟩]
    have W9 := wld_new (D := D) (dA := dA) (ρ := ρ) (ρ' := rhoC ρ Kd k q) (σ := σ) (σ' := cpyM σ Kd k n) (A := A) (H' := H1) (fun qq => (qq.1 = Kd ∧ qq.2 = k) ∨ (qq.1 = 3 ∧ qq.2 = k)) (fun qq hqq hN => ?_) (fun qq hqq hN => ?_) (fun qq hqq hN q2 hq2 h9 => ?_) (fun qq hqq hN => hset qq hqq (fun x => hN (Or.inr x))) hD
    · obtain ⟨hPn, hDn⟩ := W9
      have G9 := hkk p l e s m args below meth c D dA (rhoC ρ Kd k q) A H1 locs1 la (Cx_ext he C) (by rw [lvp_ext he ls 0 hnl]; exact hl) hPn hDn hS1
      rw [map_ext hns he] at G9
      intro T9 hT9 X8
      obtain ⟨t2, b1, b2⟩ := G9 T9 hT9 X8
      exact ⟨t2, b1, hm1 below args s D dA ρ _ A t2 he b2⟩
    · have hq9 := (hdm qq).mp hqq
      have hlt9 : qq.1 < 59 := dom_lt hq9
      refine ⟨hq9, ro qq (fun x => hN (Or.inl x)), cel_old hq9 (by omega) he (fun h3 K2 k1 k2 => ?_) ⟨fun w9 _ => ?_, ?_⟩ (fun c9 => ?_) ?_⟩
      · unfold rhoC
        rw [if_neg (fun x => hN (Or.inr ⟨h3, x.2⟩))]
      · unfold rhoC
        rw [if_neg (by omega)]
      · unfold rhoC
        rw [if_neg (by omega)]
      · unfold cpyM
        rw [if_neg (by omega), if_neg (fun x => hN (Or.inl x))]
      · unfold cpyM
        rw [if_neg (fun x => hN (Or.inl ⟨x.2.1, x.2.2⟩)), if_neg (by omega)]
    · obtain ⟨K, i⟩ := qq
      rcases hN with ⟨rfl, rfl⟩ | ⟨rfl, rfl⟩
      · show va_at D vwCl (rhoC ρ K i q K i, cel dA (rhoC ρ K i q) (cpyM σ K i n) K i) H1 ∧ A (rhoC ρ K i q K i)
        rw [rn]
        refine ⟨?_, hqA⟩
        have hcl : cel dA (rhoC ρ K i q) (cpyM σ K i n) K i = .inl (dA 0, n, .inl (va_cpy f (fun _ => Int32.ofInt 0) 0 0 n)) := by
          have e61 : cpyM σ K i n 61 K i = (n : Int) := by
            unfold cpyM
            rw [if_pos ⟨rfl, rfl, rfl⟩]
          have ec : ∀ c9, cpyM σ K i n K i c9 = if c9 < n then σ 26 0 c9 else 0 := fun c9 => by
            unfold cpyM
            rw [if_neg (by omega), if_pos ⟨rfl, rfl⟩]
          have ef : (fun c9 => Int32.ofInt (cpyM σ K i n K i c9)) = va_cpy f (fun _ => Int32.ofInt 0) 0 0 n := by
            funext c9
            rw [ec, ← hf]
            unfold va_cpy
            by_cases hc9 : c9 < n
            · rw [if_pos hc9, if_pos ⟨Nat.zero_le _, by omega⟩]
              rw [Nat.zero_add, Nat.sub_zero]
            · rw [if_neg hc9, if_neg (fun x => hc9 (by omega))]
          have hKs : K = 24 ∨ K = 25 := by omega
          rw [← ef]
          rcases hKs with rfl | rfl
          · show (Sum.inl (dA 0, (cpyM σ 24 i n 61 24 i).toNat, .inl (fun c9 => Int32.ofInt (cpyM σ 24 i n 24 i c9))) : va_E) = _
            rw [e61, Int.toNat_natCast]
          · show (Sum.inl (dA 0, (cpyM σ 25 i n 61 25 i).toNat, .inl (fun c9 => Int32.ofInt (cpyM σ 25 i n 25 i c9))) : va_E) = _
            rw [e61, Int.toNat_natCast]
        rw [hcl]
        refine hP1 (wld dA ρ σ).length _ ?_
        rw [List.getElem?_set, if_neg (by omega), List.getElem?_append_right (Nat.le_refl _), Nat.sub_self]
        rfl
      · show va_at D vwCl (rhoC ρ Kd i q 3 i, cel dA (rhoC ρ Kd i q) (cpyM σ Kd i n) 3 i) H1 ∧ A (rhoC ρ Kd i q 3 i)
        rw [cel_3 hsl hkd, ro (3, i) (fun x => by have : (3 : Nat) = Kd := x.1; omega)]
        refine ⟨hP1 i3 _ ?_, d2 _ hd3⟩
        rw [List.getElem?_set, if_pos rfl, if_pos (by rw [List.length_append]; omega)]
    · have hq2' := (hdm q2).mp hq2
      by_cases hqq2 : qq.1 = Kd ∧ qq.2 = k
      · obtain ⟨K, i⟩ := qq
        obtain ⟨rfl, rfl⟩ := hqq2
        have h9 : rhoC ρ K i q K i = rhoC ρ K i q q2.1 q2.2 := h9
        rw [rn] at h9
        by_cases hx : q2.1 = K ∧ q2.2 = i
        · obtain ⟨K2, i2⟩ := q2
          obtain ⟨rfl, rfl⟩ := hx
          rfl
        · rw [ro q2 hx] at h9
          have := hlt q2 hq2'
          omega
      · have hq' := (hdm qq).mp hqq
        rw [ro qq hqq2] at h9
        by_cases hx : q2.1 = Kd ∧ q2.2 = k
        · rw [hx.1, hx.2, rn] at h9
          have := hlt qq hq'
          omega
        · rw [ro q2 hx] at h9
          exact d1 qq hq' q2 hq2' h9
  obtain ⟨t2, a1, b1⟩ := G T' rfl X'
  exact ⟨t2, stp t2 a1, b1⟩
end PUT
