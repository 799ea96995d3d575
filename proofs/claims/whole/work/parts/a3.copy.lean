/-! a3: Arrays.copyOf; a law comes into a plan -/
def yCO : MethodName := yJ7_copyOf_59c91
def cCO : ByteArray := cJ7_copyOf_59c91
theorem co_in : Cond.code yCO cCO 3 (some (.array .int)) ∈ tbg := tbg_mk (tb_3 (List.mem_of_getElem? (i := 191) rfl)) rfl
theorem co_st : Cond.static yCO ∈ tbg := tbg_mk (subl_in _ [Cond.static yCO] (by decide +kernel) _ (by simp)) rfl
theorem co_lk : Cond.methodLink (cnm 4) 190 yCO ∈ tbg := tbg_mk (subl_in _ [Cond.methodLink (cnm 4) 190 yCO] (by decide +kernel) _ (by simp)) rfl
theorem co_ar : Cond.initialized "java/util/Arrays" ∈ tbg := tbg_mk (subl_in _ [Cond.initialized "java/util/Arrays"] (by decide +kernel) _ (by simp)) rfl
theorem co_nm : plainName yCO.cls = true ∧ yCO.cls = "java/util/Arrays" ∧ yCO.cls ≠ "java/lang/invoke/MethodHandle" ∧ yCO.cls ≠ "java/lang/invoke/VarHandle" ∧ (parseMethodDescriptor yCO.desc).map (fun d => d.parameters.length) = some 2 := by decide +kernel
theorem dco_0 : decode cCO 0 = .ok (.iload_n 1, 1) := by decide +kernel
theorem dco_1 : decode cCO 1 = .ok (.aload_n 0, 1) := by decide +kernel
theorem dco_2 : decode cCO 2 = .ok (.arraylength, 1) := by decide +kernel
theorem dco_3 : decode cCO 3 = .ok (.if_icmp .ne 11, 3) := by decide +kernel
theorem dco_14 : decode cCO 14 = .ok (.iload_n 1, 1) := by decide +kernel
theorem dco_15 : decode cCO 15 = .ok (.newarray .int, 2) := by decide +kernel
theorem dco_17 : decode cCO 17 = .ok (.astore_n 2, 1) := by decide +kernel
theorem dco_18 : decode cCO 18 = .ok (.aload_n 0, 1) := by decide +kernel
theorem dco_19 : decode cCO 19 = .ok (.iconst 0, 1) := by decide +kernel
theorem dco_20 : decode cCO 20 = .ok (.aload_n 2, 1) := by decide +kernel
theorem dco_21 : decode cCO 21 = .ok (.iconst 0, 1) := by decide +kernel
theorem dco_22 : decode cCO 22 = .ok (.aload_n 0, 1) := by decide +kernel
theorem dco_23 : decode cCO 23 = .ok (.arraylength, 1) := by decide +kernel
theorem dco_24 : decode cCO 24 = .ok (.iload_n 1, 1) := by decide +kernel
theorem dco_25 : decode cCO 25 = .ok (.invokestatic 304, 3) := by decide +kernel
theorem dco_28 : decode cCO 28 = .ok (.invokestatic 150, 3) := by decide +kernel
theorem dco_31 : decode cCO 31 = .ok (.aload_n 2, 1) := by decide +kernel
theorem dco_32 : decode cCO 32 = .ok (.areturn, 1) := by decide +kernel
def QCO (D : va_G) (dA : Nat → ClassId) (a sz n : Nat) (f : Nat → Int32) : Array Value → State → Outcome → State → Prop := fun _ st o t =>
  (∃ q : Nat, o = .returned (some (.ref q)) ∧ sz ≤ q ∧ va_P D vwCl [(a, .inl (dA 0, 900, .inl f)), (q, .inl (dA 0, n, .inl (va_cpy f (fun _ => Int32.ofInt 0) 0 0 n)))] t.heap ∧ va_K D vwCl (tys dA) t) ∧ va_F (va_A [(a, .inl (dA 0, 900, .inl f))] sz) st t
set_option maxHeartbeats 4000000 in
theorem c_copyOf (l : Launch) (D : va_G) (dA : Nat → ClassId) (a sz n : Nat) (f : Nat → Int32) (hn : n < 900) : Met l yCO (Cond.code yCO cCO 3 (some (.array .int)) :: tbg) (rmC 2 1 n)
    (va_Pc [.ref a, .int (Int32.ofInt (n : Int))] (fun U => U.heap.size = sz ∧ va_P D vwCl [(a, .inl (dA 0, 900, .inl f))] U.heap ∧ va_K D vwCl (tys dA) U)) (QCO D dA a sz n f) 1 n (va_A [(a, .inl (dA 0, 900, .inl f))] sz) := by
  refine Met.ofW (cc := cCO) (maxL := 3) (ret := some (.array .int)) co_nm.1 rfl ?_
  intro p e s m args below meth c s₁ B hml hv
  obtain ⟨rfl, hsz, hP, hK⟩ := hv
  subst hsz
  have hx := B.exec
  have hb := B.bytes
  have hr := B.returns
  have hts0 := atoms_spec (ws := Cond.code yCO cCO 3 (some (.array .int)) :: tbg) B.pre
  have hts : ∀ w ∈ tbg, w.before _ s = true := fun w hw => hts0 w (List.mem_cons_of_mem _ hw)
  have hown : s.vm.findClass "java/util/Arrays" = some m.cls := by rw [← co_nm.2.1]; exact findClass_of_methodNamed B.named
  have hlocks := B.notSynchronized
  have hle := lv_entry ([.ref a, .int (Int32.ofInt (n : Int))]) (n := 3) (Nat.le_of_ble_eq_true rfl)
  rw [lg_entry_eq]
  generalize (lg_sl ([.ref a, .int (Int32.ofInt (n : Int))]) ++ List.replicate (3 - (lg_sl ([.ref a, .int (Int32.ofInt (n : Int))])).length) Slot.unset).toArray = ls at hle ⊢
  have hl : lv_has ls 3 [(0, .ref a), (1, .int (Int32.ofInt (n : Int)))] := hle
  have hD : va_D (va_A [(a, .inl (dA 0, 900, .inl f))] s.heap.size) [(a, (.inl (dA 0, 900, .inl f) : va_E))] := by
    refine ⟨fun i k x y hx hy _ => ?_, fun k x h9 => Or.inl ⟨k, x.2, by cases x; exact h9⟩⟩
    have a := (List.getElem?_eq_some_iff.mp hx).1
    have b := (List.getElem?_eq_some_iff.mp hy).1
    simp at a b
    omega
  generalize hAe : va_A [(a, (.inl (dA 0, 900, .inl f) : va_E))] s.heap.size = A at hD ⊢
  have hA : ∀ q : Nat, s.heap.size ≤ q → A q := fun q h => by rw [← hAe]; exact Or.inr h
  have hS : va_S A s.heap s.heap [] := va_S.rf
  have n32 : in32 (n : Int) := ⟨by omega, by omega⟩
  have nneg : ¬ Int32.ofInt (n : Int) < 0 := fun x => by
    have : Int32.ofInt (n : Int) < Int32.ofInt 0 := x
    rw [i32_lt n32 ⟨by decide, by decide⟩] at this
    omega
  have ncl : (Int32.ofInt (n : Int)).toNatClampNeg = n := by rw [clampz n32]; omega
  refine lv_iload_n hx hb dco_0 rfl (lv_at hl 1 rfl) ?_
  refine lv_aload_n hx hb dco_1 rfl (lv_at hl 0 rfl) ?_
  refine va_alen (v := Int32.ofInt 900) hx hb hK hP 0 0 rfl rfl rfl dco_2 ?_
  refine lv_icmp_ne (tgt := 14) hx hb dco_3 (by decide) (fun _ => ?_) (fun h => absurd (show Int32.ofInt (n : Int) = Int32.ofInt 900 from h) (fun h9 => by rw [i32_eq n32 ⟨by decide, by decide⟩] at h9; omega))
  refine lv_iload_n hx hb dco_14 rfl (lv_at hl 1 rfl) ?_
  refine va_newa (atype := .int) (ty := .int) (N' := n) (a0 := (n, .inl (fun _ => Int32.ofInt 0))) hx hb (hts _ AC_in.2.1) rfl hK hP hD hS hA (fun _ => rfl) nneg ncl (Nat.le_trans (Nat.mul_le_mul (show n ≤ 900 by omega) (show componentBytes .int ≤ 8 by decide)) (Nat.le_of_ble_eq_true rfl)) (show 0 + 1 ≤ 1 by decide) (show 0 + n ≤ n by omega) dco_15 (fun q cA H1 hK1 hP1 hD1 hS1 => ?_)
  have e1 : cA = dA 0 := RA_eq (hK1.2 7 _ rfl).2 (hK.2 0 _ rfl).2
  subst e1
  have hP1 : va_P D vwCl [(a, .inl (dA 0, 900, .inl f)), (q, .inl (dA 0, n, .inl (fun _ => Int32.ofInt 0)))] H1 := hP1
  have hD1 : va_D A [(a, (.inl (dA 0, 900, .inl f) : va_E)), (q, .inl (dA 0, n, .inl (fun _ => Int32.ofInt 0)))] := hD1
  have hqa : ¬ q = a := fun x => by
    have := hD1.1 1 0 _ _ rfl rfl x
    omega
  have hqs : s.heap.size ≤ q := by
    have hq := hD1.2 1 _ rfl
    rw [← hAe] at hq
    rcases hq with ⟨k, e9, h9⟩ | h9
    · have hz0 : k = 0 := by
        have := (List.getElem?_eq_some_iff.mp h9).1
        simp at this
        omega
      subst hz0
      exact absurd (Prod.mk.inj (Option.some.inj h9)).1.symm hqa
    · exact h9
  refine lv_astore_n hx hb dco_17 rfl hl (by decide) rfl (fun ls2 hl2 => ?_)
  have hl2 : lv_has ls2 3 [(2, .ref q), (0, .ref a), (1, .int (Int32.ofInt (n : Int)))] := hl2
  refine lv_aload_n hx hb dco_18 rfl (lv_at hl2 1 rfl) ?_
  refine lv_iconst (v := Int32.ofInt 0) hx hb dco_19 rfl ?_
  refine lv_aload_n hx hb dco_20 rfl (lv_at hl2 0 rfl) ?_
  refine lv_iconst (v := Int32.ofInt 0) hx hb dco_21 rfl ?_
  refine lv_aload_n hx hb dco_22 rfl (lv_at hl2 1 rfl) ?_
  refine va_alen (v := Int32.ofInt 900) hx hb hK hP1 0 0 rfl rfl rfl dco_23 ?_
  refine lv_iload_n hx hb dco_24 rfl (lv_at hl2 2 rfl) ?_
  refine va_mmin hx hb (hml.trans hl2.1.symm) hown (hts _ (mx_in _ (List.mem_map.mpr ⟨(15, 304, 1), by decide, rfl⟩))) (hts _ (mx_s _ (List.mem_map.mpr ⟨1, by decide, rfl⟩))) (hts _ (mx_i _ List.mem_cons_self)) (hts _ (mx_c _ (by decide +kernel))) (show 1 ≤ 2 by decide) (Nat.le_of_ble_eq_true rfl) (show 0 + 1 ≤ 1 by decide) (show 0 + n ≤ n by omega) dco_25 ?_
  have emn : (if Int32.ofInt (n : Int) < Int32.ofInt 900 then Int32.ofInt (n : Int) else Int32.ofInt 900) = Int32.ofInt (n : Int) := by
    rw [if_pos ((i32_lt n32 ⟨by decide, by decide⟩).mpr (by omega))]
  have emx : (if Int32.ofInt 900 < Int32.ofInt (n : Int) then Int32.ofInt 900 else Int32.ofInt (n : Int)) = Int32.ofInt (n : Int) := by
    rw [if_neg (fun h => by rw [i32_lt ⟨by decide, by decide⟩ n32] at h; omega)]
  first
    | rw [emn]
    | rw [emx]
  refine va_copyi (own := "java/util/Arrays") hx hb (hml.trans hl2.1.symm) hown (hts _ (ac_in _ (List.mem_map.mpr ⟨(15, 150), by decide, rfl⟩))) (hts _ (ac_w _ (by decide +kernel))) (hts _ (ac_w _ (by decide +kernel))) (hts _ (ac_w _ (by decide +kernel))) hK hP1 hD1 hS1 0 1 0 0 rfl rfl rfl rfl rfl (sp := Int32.ofInt 0) (dp := Int32.ofInt 0) (n := Int32.ofInt (n : Int)) (by decide) (by decide) nneg (by rw [ncl]; show 0 + n ≤ 900; omega) (by rw [ncl]; show 0 + n ≤ n; omega) (fun _ _ => rfl) (show 1 ≤ 2 by decide) (Nat.le_of_ble_eq_true rfl) dco_28 (fun H2 locs2 hP2 hD2 hS2 => ?_)
  refine lv_aload_n hx hb dco_31 rfl (lv_at hl2 0 rfl) ?_
  refine W.widen (k := 1) (n := n) (by omega) (by omega) ?_
  have hP2 : va_P D vwCl [(a, .inl (dA 0, 900, .inl f)), (q, .inl (dA 0, n, .inl (va_cpy f (fun _ => Int32.ofInt 0) 0 0 n)))] H2 := by
    have := hP2
    rw [ncl] at this
    exact this
  exact W.aret (v := .ref q) hx hb hr (Or.inr ⟨.int, rfl⟩) (Or.inr ⟨q, rfl⟩) (fun t ht hW => ⟨⟨q, rfl, hqs, by rw [ht]; exact hP2, va_K.moved hW.alike hK⟩, by rw [hAe]; exact hS2.F ht⟩) hS2.2.2 dco_32
