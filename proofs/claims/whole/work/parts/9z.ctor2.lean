/-! 9z: the interpreter of constructors tells the truth of the machine -/
set_option maxRecDepth 100000 in
theorem dfl_ok : ∀ k : Fin 13, ∀ i : Fin 40, i.val < nX k.val → defaultValue (tyX k.val i.val) = vp_V ((dfC k.val).map (cv (fun _ _ => 0))) i.val := by decide +kernel
theorem nX_le : ∀ k : Fin 13, nX k.val ≤ 40 ∧ (dfC k.val).length = nX k.val := by decide +kernel
theorem dfC_cv {ρ ρ' : Rho} {k : Nat} : (dfC k).map (cv ρ) = (dfC k).map (cv ρ') := by
  unfold dfC
  rw [List.map_map, List.map_map]
  refine List.map_congr_left (fun f _ => ?_)
  simp only [Function.comp]
  split
  · rfl
  · split <;> rfl
theorem AC_in : Cond.arrayClass .byte ∈ tbg ∧ Cond.arrayClass .int ∈ tbg ∧ Cond.arrayClass .boolean ∈ tbg ∧ Cond.arrayClass .long ∈ tbg := by
  have h := tbg_sub [Cond.arrayClass .byte, Cond.arrayClass .int, Cond.arrayClass .boolean, Cond.arrayClass .long] (by decide +kernel) (by decide +kernel)
  exact ⟨h _ (by simp), h _ (by simp), h _ (by simp), h _ (by simp)⟩
theorem OI_in : Cond.instanceMethod Lib.objectInit ∈ tbg ∧ Cond.code Lib.objectInit ⟨#[0xb1]⟩ 1 none ∈ tbg := ⟨tbg_mk (subl_in _ [Cond.instanceMethod Lib.objectInit] (by decide +kernel) _ (by simp)) rfl, tbg_mk (subl_in _ [Cond.code Lib.objectInit ⟨#[0xb1]⟩ 1 none] (by decide +kernel) _ (by simp)) rfl⟩
/-- types of the class's reference fields -/
def rty (t : FieldType) : Bool := match t with
  | .object _ => true
  | .array _ => true
  | _ => false
set_option maxRecDepth 100000 in
theorem rty_ok : ∀ k : Fin 13, ∀ i : Fin 40, (match (fds k.val)[i.val]? with | some fd => decide (3 ≤ fd.1) | none => false) = true → rty (tyX k.val i.val) = true := by decide +kernel
theorem rty_put {t : FieldType} {a : Nat} (h : rty t = true) : narrow t (.ref a) = .ref a ∧ fits t (.ref a) = true := by
  cases t <;> first | (exact ⟨rfl, rfl⟩) | (cases h)
theorem cY_ok : ∀ k : Fin 13, plainName (cY k.val).cls = true ∧ (cY k.val).cls = cnm k.val ∧ (cY k.val).name = "<init>" ∧ (cY k.val).cls ≠ "java/lang/invoke/MethodHandle" ∧ (cY k.val).cls ≠ "java/lang/invoke/VarHandle" ∧ (parseMethodDescriptor (cY k.val).desc).map (fun d => d.parameters.length) = some (cP k.val) ∧ cL k.val ≤ 40 := by decide +kernel
theorem mem3 {k : Nat} (hk : k < 13) : Cond.instanceMethod (cY k) ∈ tbg ∧ Cond.initialized (cnm k) ∈ tbg ∧ Cond.instantiable (cnm k) (nX k) ∈ tbg := by
  have h1 : ∀ k : Fin 13, k.val ∈ CIM ∧ k.val ∈ CIN ∧ k.val ∈ CIS := by decide
  obtain ⟨a, b, c⟩ := h1 ⟨k, hk⟩
  exact ⟨CIM_in _ (List.mem_map.mpr ⟨k, a, rfl⟩), CIN_in _ (List.mem_map.mpr ⟨k, b, rfl⟩), CIS_in _ (List.mem_map.mpr ⟨k, c, rfl⟩)⟩
set_option maxRecDepth 100000 in
theorem own_d : ∀ k : Fin 13, ∀ i : Fin 40, i.val < nX k.val → (tX k.val i.val).1 = cnm k.val := by decide +kernel
theorem own_ok {j sl : Nat} (hj : j < 13) (h : sl < nX j) : (tX j sl).1 = cnm j := by
  have := (nX_le ⟨j, hj⟩).1
  have : nX j ≤ 40 := this
  exact own_d ⟨j, hj⟩ ⟨sl, by omega⟩ h
section CT
variable {j : Nat} {p : Program} {l : Launch} {e : Env} {R : Room} {s : State} {m : MethodId} {args : Array Value} {below : List Frame} {meth : Method} {c : Code} {D : va_G} {dA : Nat → ClassId} {A : Nat → Prop} {c0 : Nat} {α0 : Nat → Nat} {Q : State → Prop} {pc : Nat} {ls st : List AV} {cs : List CE} {nc ns : Nat}
theorem C_aload {k : Fin 4} {q : Nat × Nat} (C : CxC j p s m args meth c D dA A) (hd : decode (cB j) pc = .ok (.aload_n k, 1)) (hv : lg ls k = .inr (.inr (some q))) (h : WCt j p l e R s m args below meth c D dA A c0 α0 Q (pc + 1) ls (.inr (.inr (some q)) :: st) cs nc ns) : WCt j p l e R s m args below meth c D dA A c0 α0 Q pc ls st cs nc ns := by
  intro α H locs la h1 h2 hl hP hD hS
  exact lv_aload_n C.1 C.2.1 hd rfl (lv_get hl hv rfl) (h α H locs la h1 h2 hl hP hD hS)
theorem C_iload {k : Fin 4} {z : Int} (C : CxC j p s m args meth c D dA A) (hd : decode (cB j) pc = .ok (.iload_n k, 1)) (hv : lg ls k = .inl z) (h : WCt j p l e R s m args below meth c D dA A c0 α0 Q (pc + 1) ls (.inl z :: st) cs nc ns) : WCt j p l e R s m args below meth c D dA A c0 α0 Q pc ls st cs nc ns := by
  intro α H locs la h1 h2 hl hP hD hS
  exact lv_iload_n C.1 C.2.1 hd rfl (lv_get hl hv rfl) (h α H locs la h1 h2 hl hP hD hS)
theorem C_istore {k : Fin 4} {z : Int} (C : CxC j p s m args meth c D dA A) (hd : decode (cB j) pc = .ok (.istore_n k, 1)) (hk : (k : Nat) < cL j) (h : WCt j p l e R s m args below meth c D dA A c0 α0 Q (pc + 1) (ls1 ls k (.inl z)) st cs nc ns) : WCt j p l e R s m args below meth c D dA A c0 α0 Q pc ls (.inl z :: st) cs nc ns := by
  intro α H locs la h1 h2 hl hP hD hS
  refine lv_istore_n C.1 C.2.1 hd rfl hl hk rfl (fun la' hl' => ?_)
  exact h α H locs la' h1 h2 (lv_set1 (v := .inl z) hl') hP hD hS
theorem C_iinc {k : Nat} {v z : Int} (C : CxC j p s m args meth c D dA A) (hd : decode (cB j) pc = .ok (.iinc k v, 3)) (hv : lg ls k = .inl z) (hk : k < cL j) (h : WCt j p l e R s m args below meth c D dA A c0 α0 Q (pc + 3) (ls1 ls k (.inl (z + v))) st cs nc ns) : WCt j p l e R s m args below meth c D dA A c0 α0 Q pc ls st cs nc ns := by
  intro α H locs la h1 h2 hl hP hD hS
  have hmem : (k, Value.int (Int32.ofInt z)) ∈ lvp (rA α) 0 ls := (lvp_mem (rA α) ls 0 _).mpr ⟨k, lg_len (by rw [hv]; rfl), by rw [hv]; simp [cv], by rw [hv]; rfl⟩
  obtain ⟨i, hi⟩ := List.getElem?_of_mem hmem
  refine lv_iinc C.1 C.2.1 hd hl hi (by rw [← Int32.ofInt_add]) hk rfl (fun la' hl' => ?_)
  exact h α H locs la' h1 h2 (lv_set1 (v := .inl (z + v)) hl') hP hD hS
theorem C_iconst {v : Int} (C : CxC j p s m args meth c D dA A) (hd : decode (cB j) pc = .ok (.iconst v, 1)) (h : WCt j p l e R s m args below meth c D dA A c0 α0 Q (pc + 1) ls (.inl v :: st) cs nc ns) : WCt j p l e R s m args below meth c D dA A c0 α0 Q pc ls st cs nc ns := by
  intro α H locs la h1 h2 hl hP hD hS
  exact lv_iconst C.1 C.2.1 hd rfl (h α H locs la h1 h2 hl hP hD hS)
theorem C_bipush {v : Int} (C : CxC j p s m args meth c D dA A) (hd : decode (cB j) pc = .ok (.bipush v, 2)) (hv : -128 ≤ v ∧ v ≤ 127) (h : WCt j p l e R s m args below meth c D dA A c0 α0 Q (pc + 2) ls (.inl v :: st) cs nc ns) : WCt j p l e R s m args below meth c D dA A c0 α0 Q pc ls st cs nc ns := by
  intro α H locs la h1 h2 hl hP hD hS
  exact lv_bipush C.1 C.2.1 hd (Int8.toInt32_ofInt hv.1 hv.2) (h α H locs la h1 h2 hl hP hD hS)
theorem C_sipush {v : Int} (C : CxC j p s m args meth c D dA A) (hd : decode (cB j) pc = .ok (.sipush v, 3)) (hv : -32768 ≤ v ∧ v ≤ 32767) (h : WCt j p l e R s m args below meth c D dA A c0 α0 Q (pc + 3) ls (.inl v :: st) cs nc ns) : WCt j p l e R s m args below meth c D dA A c0 α0 Q pc ls st cs nc ns := by
  intro α H locs la h1 h2 hl hP hD hS
  exact lv_sipush C.1 C.2.1 hd (Int16.toInt32_ofInt hv.1 hv.2) (h α H locs la h1 h2 hl hP hD hS)
theorem C_lconst {v : Fin 2} (C : CxC j p s m args meth c D dA A) (hd : decode (cB j) pc = .ok (.lconst v, 1)) (h : WCt j p l e R s m args below meth c D dA A c0 α0 Q (pc + 1) ls (.inr (.inl ((v : Nat) : Int)) :: st) cs nc ns) : WCt j p l e R s m args below meth c D dA A c0 α0 Q pc ls st cs nc ns := by
  intro α H locs la h1 h2 hl hP hD hS
  exact lv_lconst C.1 C.2.1 hd rfl (h α H locs la h1 h2 hl hP hD hS)
theorem C_dup {a : AV} (C : CxC j p s m args meth c D dA A) (hd : decode (cB j) pc = .ok (.dup, 1)) (ha : isL a = false) (h : WCt j p l e R s m args below meth c D dA A c0 α0 Q (pc + 1) ls (a :: a :: st) cs nc ns) : WCt j p l e R s m args below meth c D dA A c0 α0 Q pc ls (a :: st) cs nc ns := by
  intro α H locs la h1 h2 hl hP hD hS
  exact lv_dup C.1 C.2.1 hd (by rw [isL_cat, ha]; rfl) (h α H locs la h1 h2 hl hP hD hS)
theorem C_goto {o : Int} (C : CxC j p s m args meth c D dA A) (hd : decode (cB j) pc = .ok (.goto o, 3)) (ho : 0 ≤ (pc : Int) + o) (h : WCt j p l e R s m args below meth c D dA A c0 α0 Q ((pc : Int) + o).toNat ls st cs nc ns) : WCt j p l e R s m args below meth c D dA A c0 α0 Q pc ls st cs nc ns := by
  intro α H locs la h1 h2 hl hP hD hS
  exact lv_goto C.1 C.2.1 hd (by omega) (h α H locs la h1 h2 hl hP hD hS)
theorem C_icmp {o a b : Int} (C : CxC j p s m args meth c D dA A) (hd : decode (cB j) pc = .ok (.if_icmp .ge o, 3)) (ho : 0 ≤ (pc : Int) + o) (ha : in32 a) (hb : in32 b) (h1 : b ≤ a → WCt j p l e R s m args below meth c D dA A c0 α0 Q ((pc : Int) + o).toNat ls st cs nc ns) (h2 : ¬ b ≤ a → WCt j p l e R s m args below meth c D dA A c0 α0 Q (pc + 3) ls st cs nc ns) : WCt j p l e R s m args below meth c D dA A c0 α0 Q pc ls (.inl b :: .inl a :: st) cs nc ns := by
  intro α H locs la g1 g2 hl hP hD hS
  exact lv_icmp_ge C.1 C.2.1 hd (by omega) (fun x => h1 ((i32_le hb ha).mp x) α H locs la g1 g2 hl hP hD hS) (fun x => h2 (fun y => x ((i32_le hb ha).mpr y)) α H locs la g1 g2 hl hP hD hS)
/-- a new cell is told -/
theorem C_grow {ce : CE} {q : Nat} {ev : va_E} {α : Nat → Nat} {H1 : Heap} {locs : List Loc} {la : Array Slot} {pc' nc' ns' : Nat} (h : WCt j p l e R s m args below meth c D dA A c0 α0 Q pc' ls (.inr (.inr (some (70, cs.length))) :: st) (cs ++ [ce]) nc' ns') (hw : wfS ls st cs = true) (hev : celC dA (upA α cs.length q) ce = ev) (h1 : ∀ i, i < c0 → α i = α0 i) (h2 : c0 ≤ cs.length) (hl : lv_has la (cL j) (lvp (rA α) 0 ls)) (hP : va_P D vwCl (wrl dA α cs ++ [(q, ev)]) H1) (hD : va_D A (wrl dA α cs ++ [(q, ev)])) (hS : va_S A s.heap H1 locs) : W p l e R s m args below meth c H1 locs nc' ns' Q (F0 m pc' la (.ref q :: st.map (cv (rA α)))) := by
  simp only [wfS, Bool.and_eq_true] at hw
  obtain ⟨⟨w1, w2⟩, w3⟩ := hw
  have ha : ∀ i, i < cs.length → upA α cs.length q i = α i := fun i hi => by unfold upA; rw [if_neg (by omega)]
  rw [← hev, ← wrl_app w1] at hP hD
  have G := h (upA α cs.length q) H1 locs la (fun i hi => (ha i (by omega)).trans (h1 i hi)) (by simp; omega) (by rw [lvp_wf ha ls 0 w2]; exact hl) hP hD hS
  rw [List.map_cons, map_wf w3 ha] at G
  have e9 : cv (rA (upA α cs.length q)) (.inr (.inr (some (70, cs.length)))) = .ref q := by
    show Value.ref (upA α cs.length q cs.length) = .ref q
    unfold upA
    rw [if_pos rfl]
  rw [e9] at G
  exact G
theorem C_new {x k : Nat} (C : CxC j p s m args meth c D dA A) (hd : decode (cB j) pc = .ok (.new x, 3)) (he : (j, x, k) ∈ CLT) (hk : k < 13) (hc : nc + 1 ≤ R.cells) (hs : ns + nX k ≤ R.slots) (hw : wfS ls st cs = true) (h : WCt j p l e R s m args below meth c D dA A c0 α0 Q (pc + 3) ls (.inr (.inr (some (70, cs.length))) :: st) (cs ++ [.inl (k, dfC k)]) (nc + 1) (ns + nX k)) : WCt j p l e R s m args below meth c D dA A c0 α0 Q pc ls st cs nc ns := by
  intro α H locs la h1 h2 hl hP hD hS
  obtain ⟨g1, g2, g3, g4⟩ := cl_at hk
  obtain ⟨m1, m2, m3⟩ := mem3 hk
  have hts := C.2.2.2.2.1
  have hfs : ∀ i, i < nX k → defaultValue (tyX k i) = vp_V ((dfC k).map (cv (rA α))) i := fun i hi => by
    rw [dfC_cv (ρ' := fun _ _ => 0)]
    have := (nX_le ⟨k, hk⟩).1
    exact dfl_ok ⟨k, hk⟩ ⟨i, by have : nX k ≤ 40 := this; omega⟩ hi
  refine va_new (C := cnm k) (T := tX k) (N := nX k) (ci := k) (own := cnm j) C.1 C.2.1 hts g2 (tyX k) g3 C.2.2.2.2.2.1 (hts _ (CLT_in _ (List.mem_map.mpr ⟨_, he, rfl⟩))) (hts _ m3) (hts _ m2) C.2.2.2.2.2.2.2.1 hP hD hS C.2.2.2.2.2.2.2.2.1 g1 hfs hc hs hd (fun q H1 hP1 hD1 hS1 => ?_)
  refine C_grow h hw ?_ h1 h2 hl hP1 hD1 hS1
  show (Sum.inr (k, (dfC k).map (cv (rA (upA α cs.length q)))) : va_E) = .inr (k, (dfC k).map (cv (rA α)))
  rw [dfC_cv (ρ' := rA α)]
theorem RA_eq {U : State} {cA cB : ClassId} {ty : FieldType} (h1 : va_RA U cA ty) (h2 : va_RA U cB ty) : cA = cB := by
  cases ty <;> first | (exact Option.some.inj (h1.symm.trans h2)) | (obtain ⟨_, _, _, _, _, a⟩ := h1; obtain ⟨_, _, _, _, _, b⟩ := h2; exact Option.some.inj (a.symm.trans b))
theorem C_newa {t : ArrayType} {z : Int} (C : CxC j p s m args meth c D dA A) (hd : decode (cB j) pc = .ok (.newarray t, 2)) (ht : atg t < 4) (hz : 0 ≤ z ∧ z ≤ 5000) (hc : nc + 1 ≤ R.cells) (hs : ns + z.toNat ≤ R.slots) (hw : wfS ls st cs = true) (h : WCt j p l e R s m args below meth c D dA A c0 α0 Q (pc + 2) ls (.inr (.inr (some (70, cs.length))) :: st) (cs ++ [.inr (atg t, z.toNat, [])]) (nc + 1) (ns + z.toNat)) : WCt j p l e R s m args below meth c D dA A c0 α0 Q pc ls (.inl z :: st) cs nc ns := by
  intro α H locs la h1 h2 hl hP hD hS
  have hts := C.2.2.2.2.1
  have hK := C.2.2.2.2.2.2.2.1
  have z32 : in32 z := ⟨by omega, by omega⟩
  have zn : ¬ Int32.ofInt z < 0 := fun x => by
    have : Int32.ofInt z < Int32.ofInt 0 := x
    rw [i32_lt z32 ⟨by decide, by decide⟩] at this
    omega
  obtain ⟨a1, a2, a3, a4⟩ := AC_in
  have fin : ∀ (ty : FieldType) (i : Nat), (tys dA)[i]? = some (dA (atg t), ty) → newarray.typeOf t = ty → Cond.arrayClass ty ∈ tbg → componentBytes ty ≤ 8 → (∀ cA : ClassId, vp_cell cA (z.toNat, acC α (atg t) []) = arrV cA z.toNat (fun _ => defaultValue ty)) → W p l e R s m args below meth c H locs nc ns Q (F0 m pc la ((Sum.inl z :: st).map (cv (rA α)))) := by
    intro ty i hi hty hin hcb hcell
    refine va_newa (atype := t) (ty := ty) (N' := z.toNat) (a0 := (z.toNat, acC α (atg t) [])) C.1 C.2.1 (by rw [hty]; exact hts _ hin) hty hK hP hD hS C.2.2.2.2.2.2.2.2.1 hcell zn (clampz z32) ?_ hc hs hd (fun q cA H1 hK1 hP1 hD1 hS1 => ?_)
    · exact Nat.le_trans (Nat.mul_le_mul (show z.toNat ≤ 5000 by omega) hcb) (Nat.le_of_ble_eq_true rfl)
    · have e1 : cA = dA (atg t) := RA_eq (hK1.2 7 _ rfl).2 (hK.2 i _ hi).2
      subst e1
      exact C_grow h hw rfl h1 h2 hl hP1 hD1 hS1
  cases t with
  | int => exact fin .int 0 rfl rfl a2 (by decide) (fun _ => rfl)
  | byte => exact fin .byte 1 rfl rfl a1 (by decide) (fun _ => rfl)
  | boolean => exact fin .boolean 2 rfl rfl a3 (by decide) (fun _ => rfl)
  | long => exact fin .long 3 rfl rfl a4 (by decide) (fun _ => rfl)
  | _ => exact absurd ht (by decide)
theorem C_anew {x k : Nat} {z : Int} (C : CxC j p s m args meth c D dA A) (hd : decode (cB j) pc = .ok (.anewarray x, 3)) (he : (j, x, k) ∈ CLT) (hk : k = 7 ∨ k = 8 ∨ k = 10) (hz : 0 ≤ z ∧ z ≤ 5000) (hc : nc + 1 ≤ R.cells) (hs : ns + z.toNat ≤ R.slots) (hw : wfS ls st cs = true) (h : WCt j p l e R s m args below meth c D dA A c0 α0 Q (pc + 3) ls (.inr (.inr (some (70, cs.length))) :: st) (cs ++ [.inr (otg k, z.toNat, [])]) (nc + 1) (ns + z.toNat)) : WCt j p l e R s m args below meth c D dA A c0 α0 Q pc ls (.inl z :: st) cs nc ns := by
  intro α H locs la h1 h2 hl hP hD hS
  have hts := C.2.2.2.2.1
  have hK := C.2.2.2.2.2.2.2.1
  have hSC := C.2.2.2.2.2.2.2.2.2.2
  have z32 : in32 z := ⟨by omega, by omega⟩
  have zn : ¬ Int32.ofInt z < 0 := fun x => by
    have : Int32.ofInt z < Int32.ofInt 0 := x
    rw [i32_lt z32 ⟨by decide, by decide⟩] at this
    omega
  have fin : ∀ (i : Nat), (tys dA)[i]? = some (dA (otg k), .object (cnm k)) → va_AO (cnm k) s → acC α (otg k) [] = .inr (.inr (.inr (.inr (fun _ => none)))) → W p l e R s m args below meth c H locs nc ns Q (F0 m pc la ((Sum.inl z :: st).map (cv (rA α)))) := by
    intro i hi hao hac
    refine va_newq (C := cnm k) (own := cnm j) (N' := z.toNat) C.1 C.2.1 C.2.2.2.2.2.1 (hts _ (CLT_in _ (List.mem_map.mpr ⟨_, he, rfl⟩))) hao hK hP hD hS C.2.2.2.2.2.2.2.2.1 zn (clampz z32) ?_ hc hs hd (fun q cA H1 hK1 hP1 hD1 hS1 => ?_)
    · exact Nat.le_trans (Nat.mul_le_mul (show z.toNat ≤ 5000 by omega) (Nat.le_refl 4)) (Nat.le_of_ble_eq_true rfl)
    · have e1 : cA = dA (otg k) := RA_eq (hK1.2 7 _ rfl).2 (hK.2 i _ hi).2
      subst e1
      refine C_grow h hw ?_ h1 h2 hl hP1 hD1 hS1
      show (Sum.inl (dA (otg k), z.toNat, acC (upA α cs.length q) (otg k) []) : va_E) = _
      have e2 : acC (upA α cs.length q) (otg k) [] = acC α (otg k) [] := by unfold acC; rfl
      rw [e2, hac]
  rcases hk with rfl | rfl | rfl
  · exact fin 6 rfl hSC.2.1 rfl
  · exact fin 4 rfl hSC.2.2.1 rfl
  · exact fin 5 rfl hSC.2.2.2 rfl
theorem C_getf {x ci sl : Nat} {q : Nat × Nat} {o : Nat × List AV} {v : AV} (C : CxC j p s m args meth c D dA A) (hd : decode (cB j) pc = .ok (.getfield x, 3)) (he : (j, x, ci, sl) ∈ FLT) (hci : ci < 13) (hsl : sl < nX ci) (ho : cs[q.2]? = some (.inl o)) (hoc : o.1 = ci) (hv : o.2[sl]? = some v) (h : WCt j p l e R s m args below meth c D dA A c0 α0 Q (pc + 3) ls (v :: st) cs nc ns) : WCt j p l e R s m args below meth c D dA A c0 α0 Q pc ls (.inr (.inr (some q)) :: st) cs nc ns := by
  intro α H locs la h1 h2 hl hP hD hS
  obtain ⟨g1, g2, g3, g4⟩ := cl_at hci
  have hts := C.2.2.2.2.1
  have hq : (wrl dA α cs)[q.2]? = some (α q.2, .inr (ci, o.2.map (cv (rA α)))) := by
    rw [← hoc]
    exact wrl_at ho
  exact va_get (C := cnm ci) (T := tX ci) (N := nX ci) (own := cnm j) (index := x) C.1 C.2.1 hts g2 C.2.2.2.2.2.1 C.2.2.2.2.2.2.2.1 hP q.2 hq g1 sl hsl (hts _ (fl_in _ (List.mem_map.mpr ⟨_, he, rfl⟩))) (fun _ h9 => h9) (by rw [List.getElem?_map, hv]; rfl) hd (h α H locs la h1 h2 hl hP hD hS)
theorem C_putf {x sl : Nat} {q : Nat × Nat} {o : Nat × List AV} {v : AV} {fd : Nat × Nat × Nat × Nat} (C : CxC j p s m args meth c D dA A) (hd : decode (cB j) pc = .ok (.putfield x, 3)) (he : (j, x, j, sl) ∈ FLT) (hj : j < 13) (ho : cs[q.2]? = some (.inl o)) (hoc : o.1 = j) (hl2 : sl < o.2.length) (hfd : (fds j)[sl]? = some fd) (hok : okp fd.1 v = true) (h : WCt j p l e R s m args below meth c D dA A c0 α0 Q (pc + 3) ls st (cs.set q.2 (.inl (o.1, o.2.set sl v))) nc ns) : WCt j p l e R s m args below meth c D dA A c0 α0 Q pc ls (v :: .inr (.inr (some q)) :: st) cs nc ns := by
  intro α H locs la h1 h2 hl hP hD hS
  obtain ⟨g1, g2, g3, g4⟩ := cl_at hj
  have hts := C.2.2.2.2.1
  have hf := fOk_of hj hfd
  have hq : (wrl dA α cs)[q.2]? = some (α q.2, .inr (j, o.2.map (cv (rA α)))) := by
    rw [← hoc]
    exact wrl_at ho
  have hlen : sl < (o.2.map (cv (rA α))).length := by rw [List.length_map]; exact hl2
  have hlk := hts _ (fl_in _ (List.mem_map.mpr ⟨_, he, rfl⟩))
  have hty : ∃ ty, parseFieldDescriptor (tX j sl).2.2.1 = some ty ∧ narrow ty (cv (rA α) v) = cv (rA α) v ∧ fits ty (cv (rA α) v) = true := by
    rcases v with z | z | _ | w
    · simp only [okp, Bool.or_eq_true, Bool.and_eq_true, beq_iff_eq, decide_eq_true_eq] at hok
      obtain ⟨f1, f2, f3, f4⟩ := fput_spec (ρ := rA α) (σ := fun _ _ _ => 0) (K := 0) (i := 0) (s := 0) (fd := fd) (v := .inl z) (by
        rcases hok with h | ⟨h, h2⟩
        · exact Or.inl h
        · exact Or.inr ⟨h, h2⟩)
      exact ⟨_, (hf.2 f1).1, f2, f3⟩
    · simp only [okp, beq_iff_eq] at hok
      obtain ⟨f1, f2, f3, f4⟩ := fput_spec (ρ := rA α) (σ := fun _ _ _ => 0) (K := 0) (i := 0) (s := 0) (fd := fd) (v := .inr (.inl z)) hok
      exact ⟨_, (hf.2 f1).1, f2, f3⟩
    · cases hok
    · simp only [okp, Bool.or_eq_true, beq_iff_eq] at hok
      have hsl40 : sl < 40 := by
        have := (nX_le ⟨j, hj⟩).1
        have : nX j ≤ 40 := this
        omega
      have hr := rty_ok ⟨j, hj⟩ ⟨sl, hsl40⟩ (by
        show (match (fds j)[sl]? with | some fd => decide (3 ≤ fd.1) | none => false) = true
        rw [hfd]
        exact decide_eq_true (by omega))
      obtain ⟨r1, r2⟩ := rty_put (a := α w.2) hr
      exact ⟨tyX j sl, g3 sl hf.1, r1, r2⟩
  obtain ⟨ty, t1, t2, t3⟩ := hty
  have done : ∀ (H1 : Heap) (locs1 : List Loc), va_P D vwCl ((wrl dA α cs).set q.2 (α q.2, .inr (j, (o.2.map (cv (rA α))).set sl (cv (rA α) v)))) H1 → va_D A ((wrl dA α cs).set q.2 (α q.2, .inr (j, (o.2.map (cv (rA α))).set sl (cv (rA α) v)))) → va_S A s.heap H1 locs1 → W p l e R s m args below meth c H1 locs1 nc ns Q (F0 m (pc + 3) la (st.map (cv (rA α)))) := by
    intro H1 locs1 hP1 hD1 hS1
    have e1 : (α q.2, (Sum.inr (j, (o.2.map (cv (rA α))).set sl (cv (rA α) v)) : va_E)) = (α q.2, celC dA α (.inl (o.1, o.2.set sl v))) := by
      show _ = (α q.2, (Sum.inr (o.1, (o.2.set sl v).map (cv (rA α))) : va_E))
      rw [hoc, List.map_set]
    rw [e1, wrl_set] at hP1 hD1
    exact h α H1 locs1 la h1 (by rw [List.length_set]; exact h2) hl hP1 hD1 hS1
  by_cases hfin : (tX j sl).2.2.2 = true
  · exact va_putF (C := cnm j) (T := tX j) (N := nX j) (own := cnm j) (index := x) C.1 C.2.1 hts g2 (tyX j) g3 g4 C.2.2.2.2.2.1 C.2.2.2.2.2.2.2.1 hP hD hS q.2 hq g1 sl hf.1 hlk (fun _ h9 => h9) hfin C.2.2.2.2.2.2.2.2.2.1 (own_ok hj hf.1) t1 t2 t3 hlen hd done
  · exact va_put (C := cnm j) (T := tX j) (N := nX j) (own := cnm j) (index := x) C.1 C.2.1 hts g2 (tyX j) g3 g4 C.2.2.2.2.2.1 C.2.2.2.2.2.2.2.1 hP hD hS q.2 hq g1 sl hf.1 hlk (fun _ h9 => h9) (by simpa using hfin) t1 t2 t3 hlen hd done
theorem C_iast {z v : Int} {q : Nat × Nat} {a : Nat × Nat × List (Nat × AV)} (C : CxC j p s m args meth c D dA A) (hd : decode (cB j) pc = .ok (.iastore, 1)) (ha : cs[q.2]? = some (.inr a)) (ht : a.1 = 0) (hz : 0 ≤ z ∧ z < (a.2.1 : Int) ∧ z ≤ 5000) (h : WCt j p l e R s m args below meth c D dA A c0 α0 Q (pc + 1) ls st (cs.set q.2 (.inr (a.1, a.2.1, (z.toNat, .inl v) :: a.2.2))) nc ns) : WCt j p l e R s m args below meth c D dA A c0 α0 Q pc ls (.inl v :: .inl z :: .inr (.inr (some q)) :: st) cs nc ns := by
  intro α H locs la h1 h2 hl hP hD hS
  have z32 : in32 z := ⟨by omega, by omega⟩
  obtain ⟨t, n, w⟩ := a
  simp only at ht hz h
  subst ht
  have hq : (wrl dA α cs)[q.2]? = some (α q.2, .inl (dA 0, n, .inl (fun i => Int32.ofInt (wI w i)))) := wrl_at ha
  have hin : vp_in (Int32.ofInt z) n := by
    unfold vp_in
    rw [clampz z32]
    rintro (x | x)
    · have : Int32.ofInt z < Int32.ofInt 0 := x
      rw [i32_lt z32 ⟨by decide, by decide⟩] at this
      omega
    · omega
  refine va_iast C.1 C.2.1 C.2.2.2.2.2.2.2.1 hP hD hS q.2 0 hq rfl hin hd (fun H1 locs1 hP1 hD1 hS1 => ?_)
  have e1 : (α q.2, (Sum.inl (dA 0, n, .inl (upd (fun i => Int32.ofInt (wI w i)) (Int32.ofInt z).toNatClampNeg (Int32.ofInt v))) : va_E)) = (α q.2, celC dA α (.inr (0, n, (z.toNat, .inl v) :: w))) := by
    show _ = (α q.2, (Sum.inl (dA 0, n, .inl (fun i => Int32.ofInt (wI ((z.toNat, .inl v) :: w) i))) : va_E))
    have : upd (fun i => Int32.ofInt (wI w i)) (Int32.ofInt z).toNatClampNeg (Int32.ofInt v) = fun i => Int32.ofInt (wI ((z.toNat, .inl v) :: w) i) := by
      funext i
      rw [clampz z32]
      show (if i = z.toNat then Int32.ofInt v else Int32.ofInt (wI w i)) = Int32.ofInt (if i = z.toNat then v else wI w i)
      split <;> rfl
    rw [this]
  rw [e1, wrl_set] at hP1 hD1
  exact h α H1 locs1 la h1 (by rw [List.length_set]; exact h2) hl hP1 hD1 hS1
theorem C_aast {z : Int} {q v : Nat × Nat} {a : Nat × Nat × List (Nat × AV)} {o : Nat × List AV} (C : CxC j p s m args meth c D dA A) (hd : decode (cB j) pc = .ok (.aastore, 1)) (ha : cs[q.2]? = some (.inr a)) (hv : cs[v.2]? = some (.inl o)) (ht : a.1 = otg o.1) (ho : o.1 = 7 ∨ o.1 = 8 ∨ o.1 = 10) (hz : 0 ≤ z ∧ z < (a.2.1 : Int) ∧ z ≤ 5000) (h : WCt j p l e R s m args below meth c D dA A c0 α0 Q (pc + 1) ls st (cs.set q.2 (.inr (a.1, a.2.1, (z.toNat, .inr (.inr (some v))) :: a.2.2))) nc ns) : WCt j p l e R s m args below meth c D dA A c0 α0 Q pc ls (.inr (.inr (some v)) :: .inl z :: .inr (.inr (some q)) :: st) cs nc ns := by
  intro α H locs la h1 h2 hl hP hD hS
  have z32 : in32 z := ⟨by omega, by omega⟩
  obtain ⟨t, n, w⟩ := a
  obtain ⟨k, fs⟩ := o
  simp only at ht hz h ho
  subst ht
  have hin : vp_in (Int32.ofInt z) n := by
    unfold vp_in
    rw [clampz z32]
    rintro (x | x)
    · have : Int32.ofInt z < Int32.ofInt 0 := x
      rw [i32_lt z32 ⟨by decide, by decide⟩] at this
      omega
    · omega
  have hvv : (wrl dA α cs)[v.2]? = some (α v.2, .inr (k, fs.map (cv (rA α)))) := wrl_at hv
  have fin : ∀ (i : Nat) (hk : k < 13), (tys dA)[i]? = some (dA (otg k), .object (cnm k)) → (∀ (α : Nat → Nat) (w : List (Nat × AV)), acC α (otg k) w = .inr (.inr (.inr (.inr (wR α w))))) → W p l e R s m args below meth c H locs nc ns Q (F0 m pc la ((Sum.inr (.inr (some v)) :: .inl z :: .inr (.inr (some q)) :: st).map (cv (rA α)))) := by
    intro i hk hi hac
    have hq : (wrl dA α cs)[q.2]? = some (α q.2, .inl (dA (otg k), n, .inr (.inr (.inr (.inr (wR α w)))))) := by
      rw [← hac]
      exact wrl_at ha
    refine va_astq (r := (cnm k, tX k, nX k)) C.1 C.2.1 C.2.2.2.2.2.2.2.1 hP hD hS q.2 i v.2 k hq hi hvv (cl_at hk).1 hin hd (fun H1 locs1 hP1 hD1 hS1 => ?_)
    have e1 : (α q.2, (Sum.inl (dA (otg k), n, .inr (.inr (.inr (.inr (va_up (wR α w) (Int32.ofInt z).toNatClampNeg (some (α v.2))))))) : va_E)) = (α q.2, celC dA α (.inr (otg k, n, (z.toNat, .inr (.inr (some v))) :: w))) := by
      show _ = (α q.2, (Sum.inl (dA (otg k), n, acC α (otg k) ((z.toNat, .inr (.inr (some v))) :: w)) : va_E))
      rw [hac]
      have : va_up (wR α w) (Int32.ofInt z).toNatClampNeg (some (α v.2)) = wR α ((z.toNat, .inr (.inr (some v))) :: w) := by
        funext i
        rw [clampz z32]
        rfl
      rw [this]
    rw [e1, wrl_set] at hP1 hD1
    exact h α H1 locs1 la h1 (by rw [List.length_set]; exact h2) hl hP1 hD1 hS1
  rcases ho with rfl | rfl | rfl
  · exact fin 6 (by decide) rfl (fun _ _ => rfl)
  · exact fin 4 (by decide) rfl (fun _ _ => rfl)
  · exact fin 5 (by decide) rfl (fun _ _ => rfl)
theorem C_obj {x : Nat} {q : Nat × Nat} (C : CxC j p s m args meth c D dA A) (hd : decode (cB j) pc = .ok (.invokespecial x, 3)) (he : (j, x) ∈ OIT) (hr : st.length ≤ 4) (hR : 1 ≤ R.frames ∧ 64 ≤ R.locals) (h : WCt j p l e R s m args below meth c D dA A c0 α0 Q (pc + 3) ls st cs nc ns) : WCt j p l e R s m args below meth c D dA A c0 α0 Q pc ls (.inr (.inr (some q)) :: st) cs nc ns := by
  intro α H locs la h1 h2 hl hP hD hS
  have hts := C.2.2.2.2.1
  refine W.objInit (rest := st.map (cv (rA α))) C.1 C.2.1 C.2.2.2.2.2.1 (hts _ (OIT_in _ (List.mem_map.mpr ⟨_, he, rfl⟩))) (hts _ OI_in.1) (hts _ OI_in.2) rfl (by rw [C.2.2.2.1]; exact hl.1) rfl hd hR.1 ?_ (h α H locs la h1 h2 hl hP hD hS)
  have := lv_room (m := m) (pc := pc) (ls := la) (rest := ((.inr (.inr (some q)) :: st : List AV).map (cv (rA α)))) (st_room (ρ := rA α) hr)
  omega
theorem tkO_of : ∀ {n : Nat} {st acc av rest : List AV}, tkO n st acc = some (av, rest) → ∃ bs, bs.length = n ∧ st = bs.reverse ++ rest ∧ av = bs ++ acc := by
  intro n
  induction n with
  | zero =>
    intro st acc av rest h
    obtain ⟨rfl, rfl⟩ := Prod.mk.inj (Option.some.inj h)
    exact ⟨[], rfl, rfl, rfl⟩
  | succ n ih =>
    intro st acc av rest h
    cases st with
    | nil => cases h
    | cons v st =>
      obtain ⟨bs, h1, h2, h3⟩ := ih (st := st) (acc := v :: acc) h
      exact ⟨bs ++ [v], by simp [h1], by simp [h2], by simp [h3]⟩
theorem C_call {dd x k : Nat} {q : Nat × Nat} {av rest : List AV} {cs2 : List CE} (C : CxC j p s m args meth c D dA A) (hd : decode (cB j) pc = .ok (.invokespecial x, 3)) (he : (j, x, k) ∈ CMT ++ CMN) (hk : k < 13) (hn : av.length = cP k) (hw : wfS ls rest cs = true) (hr : rest.length ≤ 4) (hR : dd + 2 ≤ R.frames ∧ 64 * (dd + 2) ≤ R.locals) (hc : nc + cMc k ≤ R.cells) (hs : ns + cMs k ≤ R.slots) (hM : MC dd k (.inr (.inr (some q)) :: av) cs cs2) (hle : cs.length ≤ cs2.length)
    (h : WCt j p l e R s m args below meth c D dA A c0 α0 Q (pc + 3) ls rest cs2 (nc + cMc k) (ns + cMs k)) : WCt j p l e R s m args below meth c D dA A c0 α0 Q pc ls (av.reverse ++ .inr (.inr (some q)) :: rest) cs nc ns := by
  intro α H locs la h1 h2 hl hP hD hS
  have hts := C.2.2.2.2.1
  have hK := C.2.2.2.2.2.2.2.1
  have hA := C.2.2.2.2.2.2.2.2.1
  have hSC := C.2.2.2.2.2.2.2.2.2.2
  obtain ⟨m1, m2, m3⟩ := mem3 hk
  obtain ⟨y1, y2, y3, y4, y5, y6, y7⟩ := cY_ok ⟨k, hk⟩
  simp only at y1 y2 y3 y4 y5 y6 y7
  simp only [wfS, Bool.and_eq_true] at hw
  obtain ⟨⟨w1, w2⟩, w3⟩ := hw
  have hAA : ∀ q, va_A (wrl dA α cs) H.size q → A q := by
    rintro q (⟨k, x, h⟩ | h)
    · exact hD.2 k _ h
    · exact hA q (Nat.le_trans hS.1 h)
  have hgood : GoodIn tbg (Cond.code (cY k) (cB k) (cL k) none :: tbg) := by
    intro w hw
    have h : w ∈ tbg := by
      rcases List.mem_cons.mp hw with rfl | h
      · exact cc_in hk
      · exact h
    exact ⟨h, good_of_word (List.mem_filter.mp h).2⟩
  have hRm : (rmC (dd + 1) (cMc k) (cMs k)).frames + 1 ≤ R.frames ∧ 8 + (cL k + 11) + (rmC (dd + 1) (cMc k) (cMs k)).locals ≤ R.locals := by
    constructor
    · show dd + 1 + 1 ≤ _
      omega
    · show 8 + (cL k + 11) + 64 * (dd + 1) ≤ _
      omega
  have hp : FrameBlind (va_Pc (((Sum.inr (.inr (some q))) :: av).map (cv (rA α))) (fun U => U.heap.size = H.size ∧ va_P D vwCl (wrl dA α cs) U.heap ∧ va_K D vwCl (tys dA) U ∧ va_D (fun _ => True) (wrl dA α cs) ∧ SC U)) ∧ ∀ U : State, U.heap = H → s.WarmedH U.vm → va_Pc (((Sum.inr (.inr (some q))) :: av).map (cv (rA α))) (fun U => U.heap.size = H.size ∧ va_P D vwCl (wrl dA α cs) U.heap ∧ va_K D vwCl (tys dA) U ∧ va_D (fun _ => True) (wrl dA α cs) ∧ SC U) ((((Sum.inr (.inr (some q))) :: av).map (cv (rA α))).toArray) U := by
    refine ⟨fun a U g mk w => ?_, fun U hU hW => ⟨rfl, by rw [hU], by rw [hU]; exact hP, va_K.moved hW.alike hK, hD.weaken (fun _ _ _ _ => trivial), hSC.go hW⟩⟩
    obtain ⟨q0, q1, qP, qK, qD, qT⟩ := w
    exact ⟨q0, q1, qP, va_K.moved (u := U) (U := U.calling g mk a) (Vm.Alike.refl U.vm) qK, qD, qT.same rfl⟩
  have hstack : (F0 m pc la ((av.reverse ++ .inr (.inr (some q)) :: rest).map (cv (rA α)))).stack = (av.map (cv (rA α))).reverse ++ Value.ref (α q.2) :: rest.map (cv (rA α)) := by simp [cv]
  have fin : va_Run p l e R s m args below meth c H locs nc ns (cMc k) (cMs k) (F0 m pc la ((av.reverse ++ .inr (.inr (some q)) :: rest).map (cv (rA α)))) (rest.map (cv (rA α))) (QC D dA α cs.length (va_A (wrl dA α cs) H.size) cs2 ((((Sum.inr (.inr (some q))) :: av).map (cv (rA α))).toArray)) (va_A (wrl dA α cs) H.size) → W p l e R s m args below meth c H locs nc ns Q (F0 m pc la ((av.reverse ++ .inr (.inr (some q)) :: rest).map (cv (rA α)))) := by
    intro run T hT X
    obtain ⟨v, st₀, t, T', L, h0, X', hL, e1, e2, ⟨⟨α', ha, hv, hP', hK', hD'⟩, hz, hkk⟩, stp⟩ := run T hT X
    cases hv
    rw [h0] at hz hkk
    rw [← e1] at hP' hz hkk
    have G := h α' T'.heap (locs ++ L) la (fun i hi => (ha i (by omega)).trans (h1 i hi)) (by omega) (by rw [lvp_wf ha ls 0 w2]; exact hl) hP' (hD'.weaken (fun _ _ _ h => hAA _ h))
      ⟨Nat.le_trans hS.1 hz, fun q h1 h2 => by rw [hkk q (Nat.lt_of_lt_of_le h1 hS.1) (fun z => h2 (hAA q z))]; exact hS.2.1 q h1 h2, fun q hq => by
        rcases List.mem_append.mp hq with h | h
        · exact hS.2.2 q h
        · exact hAA _ (hL q h)⟩
    rw [map_wf w3 ha] at G
    obtain ⟨t2, a1, b1⟩ := G T' rfl X'
    exact ⟨t2, stp t2 a1, b1⟩
  rcases List.mem_append.mp he with he | he
  · exact fin (va_runI (own := cnm j) ⟨C.1, C.2.1, C.2.2.2.1, C.2.2.2.2.2.1, hts⟩ (hM l D dA α H.size) (cwI (cP k) hts hgood rfl rfl rfl (by rw [y2]; exact hts _ m2) (hts _ (CMT_in _ (List.mem_map.mpr ⟨_, he, rfl⟩))) (hts _ m1) y3 ⟨y4, y5, y6⟩ hRm) hp rfl (by simp [hn]) hl.1 hstack (lv_room (st_room hr)) hd ⟨hc, hs⟩)
  · exact fin (va_runIN (own := cnm j) ⟨C.1, C.2.1, C.2.2.2.1, C.2.2.2.2.2.1, hts⟩ (hM l D dA α H.size) ⟨va_cnB (cP k) hts hgood rfl rfl rfl (hSC.1 _ he) (by rw [y2]; exact hts _ m2) ⟨y4, y5, y6⟩ hRm, y3, hts _ m1⟩ hp rfl (by simp [hn]) hl.1 hstack (lv_room (st_room hr)) hd ⟨hc, hs⟩)
set_option maxHeartbeats 4000000 in
set_option maxRecDepth 100000 in
theorem cst_ok {β : Type} {b : β} {LC LS dd : Nat} {nx : Nat → List AV → List AV → List CE → Nat → Nat → Option β} {rt : List CE → Nat → Nat → Option β} {cl : Nat → List AV → List CE → Option (List CE)} {i : Instr} {len : Nat} (hj : j < 13) (C : CxC j p s m args meth c D dA A) (hR : dd + 1 ≤ R.frames ∧ 64 * (dd + 1) ≤ R.locals) (hLC : LC ≤ R.cells) (hLS : LS ≤ R.slots) (hd : decode (cB j) pc = .ok (i, len))
    (hN : ∀ pc ls st cs nc ns, nx pc ls st cs nc ns = some b → WCt j p l e R s m args below meth c D dA A c0 α0 Q pc ls st cs nc ns) (hRt : ∀ pc ls cs nc ns, decode (cB j) pc = .ok (.return_, 1) → rt cs nc ns = some b → WCt j p l e R s m args below meth c D dA A c0 α0 Q pc ls [] cs nc ns) (hcl : ∀ k av cs cs2, cl k av cs = some cs2 → k < 13 → av.length = cP k + 1 → ∃ d', dd = d' + 1 ∧ MC d' k av cs cs2)
    (h : cst LC LS nx rt cl j i len pc ls st cs nc ns = some b) : WCt j p l e R s m args below meth c D dA A c0 α0 Q pc ls st cs nc ns := by
  cases i with
  | aload_n k =>
    dsimp only [cst] at h
    split at h
    · split at h
      · rename_i q hq hl; subst hl
        exact C_aload C hd hq (hN _ _ _ _ _ _ h)
      · cases h
    · cases h
  | iload_n k =>
    dsimp only [cst] at h
    split at h
    · split at h
      · rename_i q hq hl; subst hl
        exact C_iload C hd hq (hN _ _ _ _ _ _ h)
      · cases h
    · cases h
  | istore_n k =>
    dsimp only [cst] at h
    split at h
    · split at h
      · rename_i hl; obtain ⟨rfl, h2⟩ := hl
        exact C_istore C hd h2 (hN _ _ _ _ _ _ h)
      · cases h
    · cases h
  | iinc k v =>
    dsimp only [cst] at h
    split at h
    · split at h
      · rename_i q hq hl; obtain ⟨rfl, h2⟩ := hl
        exact C_iinc C hd hq h2 (hN _ _ _ _ _ _ h)
      · cases h
    · cases h
  | iconst v =>
    dsimp only [cst] at h
    split at h
    · rename_i hl; subst hl
      exact C_iconst C hd (hN _ _ _ _ _ _ h)
    · cases h
  | bipush v =>
    dsimp only [cst] at h
    split at h
    · rename_i hl; obtain ⟨rfl, h2⟩ := hl
      exact C_bipush C hd h2 (hN _ _ _ _ _ _ h)
    · cases h
  | sipush v =>
    dsimp only [cst] at h
    split at h
    · rename_i hl; obtain ⟨rfl, h2⟩ := hl
      exact C_sipush C hd h2 (hN _ _ _ _ _ _ h)
    · cases h
  | lconst v =>
    dsimp only [cst] at h
    split at h
    · rename_i hl; subst hl
      exact C_lconst C hd (hN _ _ _ _ _ _ h)
    · cases h
  | dup =>
    dsimp only [cst] at h
    split at h
    · split at h
      · rename_i hl; obtain ⟨rfl, h2⟩ := hl
        exact C_dup C hd h2 (hN _ _ _ _ _ _ h)
      · cases h
    · cases h
  | goto o =>
    dsimp only [cst] at h
    split at h
    · rename_i hl; obtain ⟨rfl, h2⟩ := hl
      exact C_goto C hd h2 (hN _ _ _ _ _ _ h)
    · cases h
  | if_icmp cc o =>
    cases cc with
    | ge =>
      dsimp only [cst] at h
      split at h
      · split at h
        · rename_i hl; obtain ⟨rfl, h2, h3⟩ := hl
          refine C_icmp C hd h2 ⟨by omega, by omega⟩ ⟨by omega, by omega⟩ (fun x => ?_) (fun x => ?_)
          · rw [if_pos x] at h
            exact hN _ _ _ _ _ _ h
          · rw [if_neg x] at h
            exact hN _ _ _ _ _ _ h
        · cases h
      · cases h
    | _ => cases h
  | new x =>
    dsimp only [cst] at h
    split at h
    · rename_i e' he
      split at h
      · rename_i hl; obtain ⟨rfl, h2, h3, h4, h5⟩ := hl
        have hm := List.mem_of_find?_eq_some he
        have hp := List.find?_some he
        simp only [Bool.and_eq_true, beq_iff_eq] at hp
        have e9 : e' = (j, x, e'.2.2) := by rw [← hp.1, ← hp.2]
        rw [e9] at hm
        exact C_new C hd hm h4 (by omega) (by omega) h5 (hN _ _ _ _ _ _ h)
      · cases h
    · cases h
  | newarray t =>
    dsimp only [cst] at h
    split at h
    · split at h
      · rename_i hl; obtain ⟨rfl, h1, h2, h3, h4, h5, h6⟩ := hl
        exact C_newa C hd h3 ⟨h1, h2⟩ (by omega) (by omega) h6 (hN _ _ _ _ _ _ h)
      · cases h
    · cases h
  | anewarray x =>
    dsimp only [cst] at h
    split at h
    · split at h
      · rename_i e' he
        split at h
        · rename_i hl; obtain ⟨rfl, h1, h2, h3, h4, h5, h6⟩ := hl
          have hm := List.mem_of_find?_eq_some he
          have hp := List.find?_some he
          simp only [Bool.and_eq_true, beq_iff_eq] at hp
          have e9 : e' = (j, x, e'.2.2) := by rw [← hp.1, ← hp.2]
          rw [e9] at hm
          exact C_anew C hd hm h3 ⟨h1, h2⟩ (by omega) (by omega) h6 (hN _ _ _ _ _ _ h)
        · cases h
      · cases h
    · cases h
  | getfield x =>
    dsimp only [cst] at h
    split at h
    · split at h
      · rename_i e' he
        split at h
        · rename_i o ho
          split at h
          · rename_i hl; obtain ⟨rfl, h1, h2, h3⟩ := hl
            split at h
            · rename_i v hv
              have hm := List.mem_of_find?_eq_some he
              have hp := List.find?_some he
              simp only [Bool.and_eq_true, beq_iff_eq] at hp
              have e9 : e' = (j, x, e'.2.2.1, e'.2.2.2) := by rw [← hp.1, ← hp.2]
              rw [e9] at hm
              exact C_getf C hd hm h2 h3 ho h1 hv (hN _ _ _ _ _ _ h)
            · cases h
          · cases h
        · cases h
      · cases h
    · cases h
  | putfield x =>
    dsimp only [cst] at h
    split at h
    · split at h
      · rename_i e' he
        split at h
        · rename_i o ho
          split at h
          · rename_i fd hfd
            split at h
            · rename_i hl; obtain ⟨rfl, h1, h2, h3, h4, h5⟩ := hl
              have hm := List.mem_of_find?_eq_some he
              have hp := List.find?_some he
              simp only [Bool.and_eq_true, beq_iff_eq] at hp
              have e9 : e' = (j, x, j, e'.2.2.2) := by
                obtain ⟨a1, a2, a3, a4⟩ := e'
                simp only at hp h4 ⊢
                rw [hp.1, hp.2, h4]
              rw [e9] at hm
              rw [h4] at h1 hfd
              exact C_putf C hd hm hj ho h1 h3 hfd h5 (hN _ _ _ _ _ _ h)
            · cases h
          · cases h
        · cases h
      · cases h
    · cases h
  | iastore =>
    dsimp only [cst] at h
    split at h
    · split at h
      · rename_i a ha
        split at h
        · rename_i hl; obtain ⟨rfl, h1, h2⟩ := hl
          exact C_iast C hd ha h1 h2 (hN _ _ _ _ _ _ h)
        · cases h
      · cases h
    · cases h
  | aastore =>
    dsimp only [cst] at h
    split at h
    · split at h
      · rename_i a ha
        split at h
        · rename_i o ho
          split at h
          · rename_i hl; obtain ⟨rfl, h1, h2, h3⟩ := hl
            exact C_aast C hd ha ho h1 h2 h3 (hN _ _ _ _ _ _ h)
          · cases h
        · cases h
      · cases h
    · cases h
  | invokespecial x =>
    dsimp only [cst] at h
    split at h
    · rename_i hoi
      split at h
      · split at h
        · rename_i hl; obtain ⟨rfl, h1⟩ := hl
          exact C_obj C hd (List.contains_iff_mem.mp hoi) h1 ⟨by omega, by omega⟩ (hN _ _ _ _ _ _ h)
        · cases h
      · cases h
    · split at h
      · rename_i e' he
        split at h
        · rename_i av q r htk
          split at h
          · rename_i hl; obtain ⟨rfl, h1, h2, h3, h4, h5, h6⟩ := hl
            split at h
            · rename_i cs2 hcs
              split at h
              · rename_i hle
                have hm := List.mem_of_find?_eq_some he
                have hp := List.find?_some he
                simp only [Bool.and_eq_true, beq_iff_eq] at hp
                have e9 : e' = (j, x, e'.2.2) := by rw [← hp.1, ← hp.2]
                rw [e9] at hm
                obtain ⟨d', rfl, hMC⟩ := hcl _ _ _ _ hcs h1 (by simp [h2])
                obtain ⟨bs, b1, b2, b3⟩ := tkO_of htk
                have b3 : av = bs := by rw [b3]; simp
                subst b3
                rw [b2] at h3 ⊢
                simp only [wfS, List.all_append, List.all_cons, Bool.and_eq_true] at h3
                exact C_call C hd hm h1 h2 (by simp only [wfS, Bool.and_eq_true]; exact ⟨h3.1, h3.2.2.2⟩) h4 ⟨by omega, by omega⟩ (by omega) (by omega) hMC hle (hN _ _ _ _ _ _ h)
              · cases h
            · cases h
          · cases h
        · cases h
      · cases h
  | return_ =>
    dsimp only [cst] at h
    split at h
    · split at h
      · rename_i hl; subst hl
        exact hRt _ _ _ _ _ hd h
      · cases h
    · cases h
  | _ => cases h
end CT
/-- a run of a constructor's code, as a contract -/
theorem exC_met {n dd k : Nat} {av : List AV} {cs cs2 : List CE} (hk : k < 13) (hl0 : (entL av).length ≤ cL k)
    (ih : ∀ (p : Program) (l : Launch) (e : Env) (R : Room) (s : State) (m : MethodId) (args : Array Value) (below : List Frame) (meth : Method) (c : Code) (D : va_G) (dA : Nat → ClassId) (A : Nat → Prop) (c0 : Nat) (α0 : Nat → Nat), CxC k p s m args meth c D dA A → (dd + 1 ≤ R.frames ∧ 64 * (dd + 1) ≤ R.locals) → cMc k ≤ R.cells → cMs k ≤ R.slots → WCt k p l e R s m args below meth c D dA A c0 α0 (MQ below (QC D dA α0 c0 A cs2) args s (cMc k) (cMs k) A) 0 (ent (cL k) av) [] cs 0 0) : MC dd k av cs cs2 := by
  intro l D dA α sz
  obtain ⟨y1, y2, y3, y4, y5, y6, y7⟩ := cY_ok ⟨k, hk⟩
  simp only at y1 y2 y3 y4 y5 y6 y7
  refine Met.ofW (cc := cB k) (maxL := cL k) (ret := none) y1 rfl ?_
  intro p e s m args below meth c s₁ B hml hv
  obtain ⟨rfl, hsz, hP, hK, hD0, hSC⟩ := hv
  subst hsz
  have hts := atoms_spec (ws := Cond.code (cY k) (cB k) (cL k) none :: tbg) B.pre
  have hown : s.vm.findClass (cY k).cls = some m.cls := findClass_of_methodNamed B.named
  have hle := lv_entry (av.map (cv (rA α))) (n := cL k) (by rw [entL_len]; exact hl0)
  have hin : meth.name = "<init>" := ((name_of_methodNamed B.named B.method).1).trans y3
  rw [lg_entry_eq]
  refine ih p l e _ s m _ below meth c D dA (va_A (wrl dA α cs) s.heap.size) cs.length α ⟨B.exec, B.bytes, B.returns, hml, fun w hw => hts w (List.mem_cons_of_mem _ hw), by rw [← y2]; exact hown, B.notSynchronized, hK, fun q hq => Or.inr hq, hin, hSC⟩ ⟨Nat.le_refl _, Nat.le_refl _⟩ (Nat.le_refl _) (Nat.le_refl _) α s.heap [] _ (fun _ _ => rfl) (Nat.le_refl _) (lv_mono hle ?_) hP hD0.self va_S.rf
  intro q hq
  obtain ⟨i, h1, h2, h3⟩ := (lvp_mem (rA α) _ 0 q).mp hq
  rw [h2]
  unfold ent at h3 ⊢
  rcases lg_app _ _ _ h3 with ⟨g1, g2⟩ | ⟨g1, g2⟩
  · rw [g2] at h3 ⊢
    exact ent_args av 0 i h3
  · rw [g2, lg_rep] at h3
    simp [isN] at h3
theorem exC_ok : ∀ (n dd j pc : Nat) (ls st : List AV) (cs : List CE) (nc ns : Nat) (cs' : List CE), exC n dd j pc ls st cs nc ns = some cs' → j < 13 → ∀ (p : Program) (l : Launch) (e : Env) (R : Room) (s : State) (m : MethodId) (args : Array Value) (below : List Frame) (meth : Method) (c : Code) (D : va_G) (dA : Nat → ClassId) (A : Nat → Prop) (c0 : Nat) (α0 : Nat → Nat), CxC j p s m args meth c D dA A → (dd + 1 ≤ R.frames ∧ 64 * (dd + 1) ≤ R.locals) → cMc j ≤ R.cells → cMs j ≤ R.slots → WCt j p l e R s m args below meth c D dA A c0 α0 (MQ below (QC D dA α0 c0 A cs') args s (cMc j) (cMs j) A) pc ls st cs nc ns := by
  intro n
  induction n with
  | zero => intro dd j pc ls st cs nc ns cs' h; cases h
  | succ n ih =>
    intro dd j pc ls st cs nc ns cs' h hj p l e R s m args below meth c D dA A c0 α0 C hR hC hS
    cases hd : decode (cB j) pc with
    | error _ =>
      unfold exC at h
      rw [hd] at h
      cases h
    | ok w =>
      obtain ⟨i, len⟩ := w
      unfold exC at h
      rw [hd] at h
      refine cst_ok hj C hR hC hS hd (fun pc ls st cs nc ns g => ih dd j pc ls st cs nc ns cs' g hj p l e R s m args below meth c D dA A c0 α0 C hR hC hS) (fun pc ls cs nc ns hdr g => ?_) (fun k av cs cs2 g hk hav => ?_) h
      · split at g
        · rename_i hn
          obtain ⟨h1, h2⟩ := hn
          subst h1
          subst h2
          have := Option.some.inj g
          subst this
          intro α H locs la g1 g2 hl hP hD hS2
          exact W.vret C.1 C.2.1 C.2.2.1 (fun t ht hW => ⟨⟨α, g1, rfl, by rw [ht]; exact hP, va_K.moved hW.alike C.2.2.2.2.2.2.2.1, hD⟩, hS2.F ht⟩) hS2.2.2 hdr C.2.2.2.2.2.2.1
        · cases g
      · cases dd with
        | zero => cases g
        | succ dd =>
          have g : (if (entL av).length ≤ cL k then exC n dd k 0 (ent (cL k) av) [] cs 0 0 else none) = some cs2 := g
          split at g
          · rename_i hle
            exact ⟨dd, rfl, exC_met (n := n) hk hle (fun p l e R s m args below meth c D dA A c0 α0 C hR hC hS => ih dd k 0 (ent (cL k) av) [] cs 0 0 cs2 g hk p l e R s m args below meth c D dA A c0 α0 C hR hC hS)⟩
          · cases g
/-- a constructor, run -/
theorem exC_MC {n dd k : Nat} {av : List AV} {cs cs2 : List CE} (hk : k < 13) (hl : (entL av).length ≤ cL k) (h : exC n dd k 0 (ent (cL k) av) [] cs 0 0 = some cs2) : MC dd k av cs cs2 :=
  exC_met (n := n) hk hl (fun p l e R s m args below meth c D dA A c0 α0 C hR hC hS => exC_ok n dd k 0 (ent (cL k) av) [] cs 0 0 cs2 h hk p l e R s m args below meth c D dA A c0 α0 C hR hC hS)
