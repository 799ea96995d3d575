/-! 11: the code of the methods, resolved, in blocks (written by wip/whole/code.py) -/
def b_X10_owing (t : Nat) : List Instr := match t with
  | 0 => [.iload 1, .ifCond .lt 24, .iload 1, .sipush 6, .if_icmp .ge 24, .iload 2, .ifCond .lt 24, .iload 2, .sipush 6, .if_icmp .ge 24, .sipush 1, .goto 25]
  | 24 => [.sipush 0, .jsr 25]
  | 25 => [.istore 3, .iload 3, .ifCond .eq 47, .aload 0, .checkcast 1310960, .checkcast 920656, .iload 1, .sipush 6, .imul, .iload 2, .iadd, .iaload, .goto 48]
  | 47 => [.sipush 0, .jsr 48]
  | 48 => [.ireturn]
  | _ => []
theorem k_X10_owing : ∀ t, bok (mC 83) (mB 83) (mL 83) t (b_X10_owing t) = true := by
  intro t
  unfold b_X10_owing
  split
  all_goals first | decide +kernel | rfl
theorem e_X10_owing {d : Nat} {av : List AV} {σ : Mem} {K : Option AV → Mem → Prop} (hl : (entL av).length ≤ 4) (h : wp d 83 b_X10_owing K 400 (b_X10_owing 0) (ent 4 av) [] σ) : Ev (d + 1) 83 av σ K := Ev.enter (by decide) (by decide +kernel) hl (wp_ok k_X10_owing 400 _ 0 _ _ _ (k_X10_owing 0) h)
theorem r_X10_owing : mR 83 = (some .int) := by decide +kernel
def b_X10_knowToday (t : Nat) : List Instr := match t with
  | 0 => [.aload 0, .checkcast 1312944, .checkcast 658320, .sipush 0, .iload 1, .iastore, .aload 0, .checkcast 1312944, .checkcast 658320, .sipush 1, .aload 0, .checkcast 1310960, .getfield 452, .sipush 7, .irem, .iastore, .aload 0, .checkcast 1312944, .checkcast 658320, .sipush 2, .aload 0, .checkcast 1310960, .getfield 453, .iastore, .return_]
  | _ => []
theorem k_X10_knowToday : ∀ t, bok (mC 84) (mB 84) (mL 84) t (b_X10_knowToday t) = true := by
  intro t
  unfold b_X10_knowToday
  split
  all_goals first | decide +kernel | rfl
theorem e_X10_knowToday {d : Nat} {av : List AV} {σ : Mem} {K : Option AV → Mem → Prop} (hl : (entL av).length ≤ 2) (h : wp d 84 b_X10_knowToday K 400 (b_X10_knowToday 0) (ent 2 av) [] σ) : Ev (d + 1) 84 av σ K := Ev.enter (by decide) (by decide +kernel) hl (wp_ok k_X10_knowToday 400 _ 0 _ _ _ (k_X10_knowToday 0) h)
theorem r_X10_knowToday : mR 84 = none := by decide +kernel
def b_X10_papersOf (t : Nat) : List Instr := match t with
  | 0 => [.sipush 0, .istore 2, .sipush 0, .istore 3, .jsr 4]
  | 4 => [.goto_w 4]
  | 29 => [.sipush 0, .jsr 30]
  | 30 => [.iadd, .istore 2, .iinc 3 1, .goto 4]
  | 38 => [.iload 2, .ireturn]
  | _ => []
theorem k_X10_papersOf : ∀ t, bok (mC 85) (mB 85) (mL 85) t (b_X10_papersOf t) = true := by
  intro t
  unfold b_X10_papersOf
  split
  all_goals first | decide +kernel | rfl
theorem e_X10_papersOf {d : Nat} {av : List AV} {σ : Mem} {K : Option AV → Mem → Prop} (hl : (entL av).length ≤ 4) (h : wp d 85 b_X10_papersOf K 400 (b_X10_papersOf 0) (ent 4 av) [] σ) : Ev (d + 1) 85 av σ K := Ev.enter (by decide) (by decide +kernel) hl (wp_ok k_X10_papersOf 400 _ 0 _ _ _ (k_X10_papersOf 0) h)
theorem r_X10_papersOf : mR 85 = (some .int) := by decide +kernel
def h_X10_papersOf_4 : List Instr := [.iload 3, .aload 0, .instanceof 643, .getfield 198, .if_icmp .ge 38, .iload 2, .aload 0, .iload 1, .iload 3, .invokeinterface 1338 2, .ifCond .le 29, .sipush 1, .goto 30]
theorem l_X10_papersOf_4 {d : Nat} {ls st : List AV} {σ : Mem} {K : Option AV → Mem → Prop} (h : wp d 85 b_X10_papersOf K 400 h_X10_papersOf_4 ls st σ) : Rn (d + 1) 85 4 ls st σ K := wp_ok k_X10_papersOf 400 _ 4 _ _ _ (by decide +kernel) h
def b_X10_owedTo (t : Nat) : List Instr := match t with
  | 0 => [.sipush 0, .istore 2, .sipush 0, .istore 3, .jsr 4]
  | 4 => [.goto_w 4]
  | 30 => [.iload 2, .ireturn]
  | _ => []
theorem k_X10_owedTo : ∀ t, bok (mC 86) (mB 86) (mL 86) t (b_X10_owedTo t) = true := by
  intro t
  unfold b_X10_owedTo
  split
  all_goals first | decide +kernel | rfl
theorem e_X10_owedTo {d : Nat} {av : List AV} {σ : Mem} {K : Option AV → Mem → Prop} (hl : (entL av).length ≤ 4) (h : wp d 86 b_X10_owedTo K 400 (b_X10_owedTo 0) (ent 4 av) [] σ) : Ev (d + 1) 86 av σ K := Ev.enter (by decide) (by decide +kernel) hl (wp_ok k_X10_owedTo 400 _ 0 _ _ _ (k_X10_owedTo 0) h)
theorem r_X10_owedTo : mR 86 = (some .int) := by decide +kernel
def h_X10_owedTo_4 : List Instr := [.iload 3, .aload 0, .instanceof 643, .getfield 198, .if_icmp .ge 30, .iload 2, .aload 0, .iload 3, .iload 1, .invokeinterface 1338 2, .iadd, .istore 2, .iinc 3 1, .goto 4]
theorem l_X10_owedTo_4 {d : Nat} {ls st : List AV} {σ : Mem} {K : Option AV → Mem → Prop} (h : wp d 86 b_X10_owedTo K 400 h_X10_owedTo_4 ls st σ) : Rn (d + 1) 86 4 ls st σ K := wp_ok k_X10_owedTo 400 _ 4 _ _ _ (by decide +kernel) h
def b_X10_firstToBreak (t : Nat) : List Instr := match t with
  | 0 => [.sipush 0, .istore 1, .jsr 2]
  | 2 => [.goto_w 2]
  | 36 => [.iinc 1 1, .goto 2]
  | 42 => [.sipush (-1), .ireturn]
  | _ => []
theorem k_X10_firstToBreak : ∀ t, bok (mC 87) (mB 87) (mL 87) t (b_X10_firstToBreak t) = true := by
  intro t
  unfold b_X10_firstToBreak
  split
  all_goals first | decide +kernel | rfl
theorem e_X10_firstToBreak {d : Nat} {av : List AV} {σ : Mem} {K : Option AV → Mem → Prop} (hl : (entL av).length ≤ 2) (h : wp d 87 b_X10_firstToBreak K 400 (b_X10_firstToBreak 0) (ent 2 av) [] σ) : Ev (d + 1) 87 av σ K := Ev.enter (by decide) (by decide +kernel) hl (wp_ok k_X10_firstToBreak 400 _ 0 _ _ _ (k_X10_firstToBreak 0) h)
theorem r_X10_firstToBreak : mR 87 = (some .int) := by decide +kernel
def h_X10_firstToBreak_2 : List Instr := [.iload 1, .aload 0, .instanceof 643, .getfield 197, .if_icmp .ge 42, .aload 0, .iload 1, .invokeinterface 1418 1, .ifCond .ne 36, .aload 0, .iload 1, .invokeinterface 1434 1, .aload 0, .iload 1, .invokeinterface 1466 1, .if_icmp .le 36, .iload 1, .ireturn]
theorem l_X10_firstToBreak_2 {d : Nat} {ls st : List AV} {σ : Mem} {K : Option AV → Mem → Prop} (h : wp d 87 b_X10_firstToBreak K 400 h_X10_firstToBreak_2 ls st σ) : Rn (d + 1) 87 2 ls st σ K := wp_ok k_X10_firstToBreak 400 _ 2 _ _ _ (by decide +kernel) h
def b_X10_isBroken (t : Nat) : List Instr := match t with
  | 0 => [.aload 0, .checkcast 1310960, .getfield 451, .iload 1, .ishr, .sipush 1, .iand, .ifCond .eq 18, .sipush 1, .goto 19]
  | 18 => [.sipush 0, .jsr 19]
  | 19 => [.ireturn]
  | _ => []
theorem k_X10_isBroken : ∀ t, bok (mC 88) (mB 88) (mL 88) t (b_X10_isBroken t) = true := by
  intro t
  unfold b_X10_isBroken
  split
  all_goals first | decide +kernel | rfl
theorem e_X10_isBroken {d : Nat} {av : List AV} {σ : Mem} {K : Option AV → Mem → Prop} (hl : (entL av).length ≤ 2) (h : wp d 88 b_X10_isBroken K 400 (b_X10_isBroken 0) (ent 2 av) [] σ) : Ev (d + 1) 88 av σ K := Ev.enter (by decide) (by decide +kernel) hl (wp_ok k_X10_isBroken 400 _ 0 _ _ _ (k_X10_isBroken 0) h)
theorem r_X10_isBroken : mR 88 = (some .boolean) := by decide +kernel
def b_X10_loadOf (t : Nat) : List Instr := match t with
  | 0 => [.sipush 0, .istore 2, .sipush 0, .istore 3, .sipush 0, .istore 4, .jsr 7]
  | 7 => [.goto_w 7]
  | 52 => [.aload 0, .iload 5, .invokeinterface 1450 1, .ifCond .eq 87, .iload 5, .iload 1, .sipush 1, .isub, .if_icmp .eq 77, .iload 5, .iload 1, .sipush 1, .iadd, .if_icmp .ne 87, .jsr 77]
  | 77 => [.iload 3, .aload 0, .checkcast 1316080, .iload 4, .iaload, .iadd, .istore 3, .jsr 87]
  | 87 => [.iinc 4 1, .goto 7]
  | 93 => [.iload 2, .iload 3, .sipush 2, .idiv, .iadd, .ireturn]
  | _ => []
theorem k_X10_loadOf : ∀ t, bok (mC 89) (mB 89) (mL 89) t (b_X10_loadOf t) = true := by
  intro t
  unfold b_X10_loadOf
  split
  all_goals first | decide +kernel | rfl
theorem e_X10_loadOf {d : Nat} {av : List AV} {σ : Mem} {K : Option AV → Mem → Prop} (hl : (entL av).length ≤ 6) (h : wp d 89 b_X10_loadOf K 400 (b_X10_loadOf 0) (ent 6 av) [] σ) : Ev (d + 1) 89 av σ K := Ev.enter (by decide) (by decide +kernel) hl (wp_ok k_X10_loadOf 400 _ 0 _ _ _ (k_X10_loadOf 0) h)
theorem r_X10_loadOf : mR 89 = (some .int) := by decide +kernel
def h_X10_loadOf_7 : List Instr := [.iload 4, .aload 0, .instanceof 643, .getfield 198, .if_icmp .ge 93, .aload 0, .checkcast 1310960, .checkcast 918576, .iload 4, .iaload, .sipush 1, .isub, .istore 5, .iload 5, .iload 1, .if_icmp .ne 52, .iload 2, .aload 0, .checkcast 1316080, .iload 4, .iaload, .iadd, .istore 2, .goto 87]
theorem l_X10_loadOf_7 {d : Nat} {ls st : List AV} {σ : Mem} {K : Option AV → Mem → Prop} (h : wp d 89 b_X10_loadOf K 400 h_X10_loadOf_7 ls st σ) : Rn (d + 1) 89 7 ls st σ K := wp_ok k_X10_loadOf 400 _ 7 _ _ _ (by decide +kernel) h
def b_X10_isPlank (t : Nat) : List Instr := match t with
  | 0 => [.iload 1, .ifCond .lt 19, .iload 1, .aload 0, .instanceof 643, .getfield 197, .if_icmp .ge 19, .sipush 1, .goto 20]
  | 19 => [.sipush 0, .jsr 20]
  | 20 => [.ireturn]
  | _ => []
theorem k_X10_isPlank : ∀ t, bok (mC 90) (mB 90) (mL 90) t (b_X10_isPlank t) = true := by
  intro t
  unfold b_X10_isPlank
  split
  all_goals first | decide +kernel | rfl
theorem e_X10_isPlank {d : Nat} {av : List AV} {σ : Mem} {K : Option AV → Mem → Prop} (hl : (entL av).length ≤ 2) (h : wp d 90 b_X10_isPlank K 400 (b_X10_isPlank 0) (ent 2 av) [] σ) : Ev (d + 1) 90 av σ K := Ev.enter (by decide) (by decide +kernel) hl (wp_ok k_X10_isPlank 400 _ 0 _ _ _ (k_X10_isPlank 0) h)
theorem r_X10_isPlank : mR 90 = (some .boolean) := by decide +kernel
def b_X10_bearing (t : Nat) : List Instr := match t with
  | 0 => [.iload 1, .ifCond .lt 35, .iload 1, .sipush 8, .if_icmp .ge 35, .aload 0, .instanceof 643, .checkcast 393904, .iload 1, .iaload, .sipush 10, .aload 0, .checkcast 1310960, .checkcast 922736, .iload 1, .iaload, .imul, .iadd, .goto 36]
  | 35 => [.sipush 0, .jsr 36]
  | 36 => [.ireturn]
  | _ => []
theorem k_X10_bearing : ∀ t, bok (mC 91) (mB 91) (mL 91) t (b_X10_bearing t) = true := by
  intro t
  unfold b_X10_bearing
  split
  all_goals first | decide +kernel | rfl
theorem e_X10_bearing {d : Nat} {av : List AV} {σ : Mem} {K : Option AV → Mem → Prop} (hl : (entL av).length ≤ 2) (h : wp d 91 b_X10_bearing K 400 (b_X10_bearing 0) (ent 2 av) [] σ) : Ev (d + 1) 91 av σ K := Ev.enter (by decide) (by decide +kernel) hl (wp_ok k_X10_bearing 400 _ 0 _ _ _ (k_X10_bearing 0) h)
theorem r_X10_bearing : mR 91 = (some .int) := by decide +kernel
def b_X10_isPerson (t : Nat) : List Instr := match t with
  | 0 => [.iload 1, .ifCond .lt 19, .iload 1, .aload 0, .instanceof 643, .getfield 198, .if_icmp .ge 19, .sipush 1, .goto 20]
  | 19 => [.sipush 0, .jsr 20]
  | 20 => [.ireturn]
  | _ => []
theorem k_X10_isPerson : ∀ t, bok (mC 92) (mB 92) (mL 92) t (b_X10_isPerson t) = true := by
  intro t
  unfold b_X10_isPerson
  split
  all_goals first | decide +kernel | rfl
theorem e_X10_isPerson {d : Nat} {av : List AV} {σ : Mem} {K : Option AV → Mem → Prop} (hl : (entL av).length ≤ 2) (h : wp d 92 b_X10_isPerson K 400 (b_X10_isPerson 0) (ent 2 av) [] σ) : Ev (d + 1) 92 av σ K := Ev.enter (by decide) (by decide +kernel) hl (wp_ok k_X10_isPerson 400 _ 0 _ _ _ (k_X10_isPerson 0) h)
theorem r_X10_isPerson : mR 92 = (some .boolean) := by decide +kernel
def b_X10_weighAll (t : Nat) : List Instr := match t with
  | 0 => [.sipush 0, .istore 1, .jsr 2]
  | 2 => [.goto_w 2]
  | 30 => [.return_]
  | _ => []
theorem k_X10_weighAll : ∀ t, bok (mC 93) (mB 93) (mL 93) t (b_X10_weighAll t) = true := by
  intro t
  unfold b_X10_weighAll
  split
  all_goals first | decide +kernel | rfl
theorem e_X10_weighAll {d : Nat} {av : List AV} {σ : Mem} {K : Option AV → Mem → Prop} (hl : (entL av).length ≤ 2) (h : wp d 93 b_X10_weighAll K 400 (b_X10_weighAll 0) (ent 2 av) [] σ) : Ev (d + 1) 93 av σ K := Ev.enter (by decide) (by decide +kernel) hl (wp_ok k_X10_weighAll 400 _ 0 _ _ _ (k_X10_weighAll 0) h)
theorem r_X10_weighAll : mR 93 = none := by decide +kernel
def h_X10_weighAll_2 : List Instr := [.iload 1, .aload 0, .instanceof 643, .getfield 198, .if_icmp .ge 30, .aload 0, .checkcast 1316080, .iload 1, .aload 0, .iload 1, .invokeinterface 1306 1, .iastore, .iinc 1 1, .goto 2]
theorem l_X10_weighAll_2 {d : Nat} {ls st : List AV} {σ : Mem} {K : Option AV → Mem → Prop} (h : wp d 93 b_X10_weighAll K 400 h_X10_weighAll_2 ls st σ) : Rn (d + 1) 93 2 ls st σ K := wp_ok k_X10_weighAll 400 _ 2 _ _ _ (by decide +kernel) h
def b_X10_onPlanksBits (t : Nat) : List Instr := match t with
  | 0 => [.sipush 0, .istore 1, .sipush 0, .istore 2, .jsr 4]
  | 4 => [.goto_w 4]
  | 39 => [.iinc 2 1, .goto 4]
  | 45 => [.iload 1, .ireturn]
  | _ => []
theorem k_X10_onPlanksBits : ∀ t, bok (mC 94) (mB 94) (mL 94) t (b_X10_onPlanksBits t) = true := by
  intro t
  unfold b_X10_onPlanksBits
  split
  all_goals first | decide +kernel | rfl
theorem e_X10_onPlanksBits {d : Nat} {av : List AV} {σ : Mem} {K : Option AV → Mem → Prop} (hl : (entL av).length ≤ 3) (h : wp d 94 b_X10_onPlanksBits K 400 (b_X10_onPlanksBits 0) (ent 3 av) [] σ) : Ev (d + 1) 94 av σ K := Ev.enter (by decide) (by decide +kernel) hl (wp_ok k_X10_onPlanksBits 400 _ 0 _ _ _ (k_X10_onPlanksBits 0) h)
theorem r_X10_onPlanksBits : mR 94 = (some .int) := by decide +kernel
def h_X10_onPlanksBits_4 : List Instr := [.iload 2, .aload 0, .instanceof 643, .getfield 198, .if_icmp .ge 45, .aload 0, .aload 0, .checkcast 1310960, .checkcast 918576, .iload 2, .iaload, .sipush 1, .isub, .invokeinterface 1450 1, .ifCond .eq 39, .iload 1, .sipush 1, .iload 2, .ishl, .ior, .istore 1, .jsr 39]
theorem l_X10_onPlanksBits_4 {d : Nat} {ls st : List AV} {σ : Mem} {K : Option AV → Mem → Prop} (h : wp d 94 b_X10_onPlanksBits K 400 h_X10_onPlanksBits_4 ls st σ) : Rn (d + 1) 94 4 ls st σ K := wp_ok k_X10_onPlanksBits 400 _ 4 _ _ _ (by decide +kernel) h
def b_X10_mayCome (t : Nat) : List Instr := match t with
  | 0 => [.aload 0, .instanceof 643, .checkcast 402224, .arraylength, .ifCond .ne 13, .sipush 1, .ireturn]
  | 13 => [.aload 0, .iload 1, .invokeinterface 1354 1, .aload 0, .checkcast 1312944, .checkcast 658320, .sipush 6, .iload 2, .iastore, .aload 0, .checkcast 1312944, .checkcast 658320, .sipush 7, .iload 3, .iastore, .aload 0, .checkcast 1312944, .checkcast 658320, .sipush 8, .iload 4, .iastore, .aload 0, .checkcast 1312944, .aload 0, .instanceof 643, .checkcast 402224, .invokeinterface 821 1, .ifCond .eq 73, .sipush 1, .goto 74]
  | 73 => [.sipush 0, .jsr 74]
  | 74 => [.ireturn]
  | _ => []
theorem k_X10_mayCome : ∀ t, bok (mC 95) (mB 95) (mL 95) t (b_X10_mayCome t) = true := by
  intro t
  unfold b_X10_mayCome
  split
  all_goals first | decide +kernel | rfl
theorem e_X10_mayCome {d : Nat} {av : List AV} {σ : Mem} {K : Option AV → Mem → Prop} (hl : (entL av).length ≤ 5) (h : wp d 95 b_X10_mayCome K 400 (b_X10_mayCome 0) (ent 5 av) [] σ) : Ev (d + 1) 95 av σ K := Ev.enter (by decide) (by decide +kernel) hl (wp_ok k_X10_mayCome 400 _ 0 _ _ _ (k_X10_mayCome 0) h)
theorem r_X10_mayCome : mR 95 = (some .boolean) := by decide +kernel
def b_X10_setOwing (t : Nat) : List Instr := match t with
  | 0 => [.iload 1, .ifCond .lt 35, .iload 1, .sipush 6, .if_icmp .ge 35, .iload 2, .ifCond .lt 35, .iload 2, .sipush 6, .if_icmp .ge 35, .aload 0, .checkcast 1310960, .checkcast 920656, .iload 1, .sipush 6, .imul, .iload 2, .iadd, .iload 3, .iastore, .jsr 35]
  | 35 => [.return_]
  | _ => []
theorem k_X10_setOwing : ∀ t, bok (mC 96) (mB 96) (mL 96) t (b_X10_setOwing t) = true := by
  intro t
  unfold b_X10_setOwing
  split
  all_goals first | decide +kernel | rfl
theorem e_X10_setOwing {d : Nat} {av : List AV} {σ : Mem} {K : Option AV → Mem → Prop} (hl : (entL av).length ≤ 4) (h : wp d 96 b_X10_setOwing K 400 (b_X10_setOwing 0) (ent 4 av) [] σ) : Ev (d + 1) 96 av σ K := Ev.enter (by decide) (by decide +kernel) hl (wp_ok k_X10_setOwing 400 _ 0 _ _ _ (k_X10_setOwing 0) h)
theorem r_X10_setOwing : mR 96 = none := by decide +kernel
def b_X10_take (t : Nat) : List Instr := match t with
  | 0 => [.aload 0, .aload 1, .instanceof 643, .ldc_w 643, .aload 0, .checkcast 1310960, .aload 1, .checkcast 1310960, .invokeinterface 999 1, .return_]
  | _ => []
theorem k_X10_take : ∀ t, bok (mC 97) (mB 97) (mL 97) t (b_X10_take t) = true := by
  intro t
  unfold b_X10_take
  split
  all_goals first | decide +kernel | rfl
theorem e_X10_take {d : Nat} {av : List AV} {σ : Mem} {K : Option AV → Mem → Prop} (hl : (entL av).length ≤ 2) (h : wp d 97 b_X10_take K 400 (b_X10_take 0) (ent 2 av) [] σ) : Ev (d + 1) 97 av σ K := Ev.enter (by decide) (by decide +kernel) hl (wp_ok k_X10_take 400 _ 0 _ _ _ (k_X10_take 0) h)
theorem r_X10_take : mR 97 = none := by decide +kernel
def b_X10_fallenBits (t : Nat) : List Instr := match t with
  | 0 => [.aload 0, .sipush (-1), .invokeinterface 1594 1, .ireturn]
  | _ => []
theorem k_X10_fallenBits : ∀ t, bok (mC 98) (mB 98) (mL 98) t (b_X10_fallenBits t) = true := by
  intro t
  unfold b_X10_fallenBits
  split
  all_goals first | decide +kernel | rfl
theorem e_X10_fallenBits {d : Nat} {av : List AV} {σ : Mem} {K : Option AV → Mem → Prop} (hl : (entL av).length ≤ 1) (h : wp d 98 b_X10_fallenBits K 400 (b_X10_fallenBits 0) (ent 1 av) [] σ) : Ev (d + 1) 98 av σ K := Ev.enter (by decide) (by decide +kernel) hl (wp_ok k_X10_fallenBits 400 _ 0 _ _ _ (k_X10_fallenBits 0) h)
theorem r_X10_fallenBits : mR 98 = (some .int) := by decide +kernel
def b_X10_bitsAt (t : Nat) : List Instr := match t with
  | 0 => [.sipush 0, .istore 2, .sipush 0, .istore 3, .jsr 4]
  | 4 => [.goto_w 4]
  | 34 => [.iinc 3 1, .goto 4]
  | 40 => [.iload 2, .ireturn]
  | _ => []
theorem k_X10_bitsAt : ∀ t, bok (mC 99) (mB 99) (mL 99) t (b_X10_bitsAt t) = true := by
  intro t
  unfold b_X10_bitsAt
  split
  all_goals first | decide +kernel | rfl
theorem e_X10_bitsAt {d : Nat} {av : List AV} {σ : Mem} {K : Option AV → Mem → Prop} (hl : (entL av).length ≤ 4) (h : wp d 99 b_X10_bitsAt K 400 (b_X10_bitsAt 0) (ent 4 av) [] σ) : Ev (d + 1) 99 av σ K := Ev.enter (by decide) (by decide +kernel) hl (wp_ok k_X10_bitsAt 400 _ 0 _ _ _ (k_X10_bitsAt 0) h)
theorem r_X10_bitsAt : mR 99 = (some .int) := by decide +kernel
def h_X10_bitsAt_4 : List Instr := [.iload 3, .aload 0, .instanceof 643, .getfield 198, .if_icmp .ge 40, .aload 0, .checkcast 1310960, .checkcast 918576, .iload 3, .iaload, .iload 1, .if_icmp .ne 34, .iload 2, .sipush 1, .iload 3, .ishl, .ior, .istore 2, .jsr 34]
theorem l_X10_bitsAt_4 {d : Nat} {ls st : List AV} {σ : Mem} {K : Option AV → Mem → Prop} (h : wp d 99 b_X10_bitsAt K 400 h_X10_bitsAt_4 ls st σ) : Rn (d + 1) 99 4 ls st σ K := wp_ok k_X10_bitsAt 400 _ 4 _ _ _ (by decide +kernel) h
def b_X10_eastBits (t : Nat) : List Instr := match t with
  | 0 => [.aload 0, .aload 0, .instanceof 643, .getfield 197, .sipush 1, .iadd, .invokeinterface 1594 1, .ireturn]
  | _ => []
theorem k_X10_eastBits : ∀ t, bok (mC 100) (mB 100) (mL 100) t (b_X10_eastBits t) = true := by
  intro t
  unfold b_X10_eastBits
  split
  all_goals first | decide +kernel | rfl
theorem e_X10_eastBits {d : Nat} {av : List AV} {σ : Mem} {K : Option AV → Mem → Prop} (hl : (entL av).length ≤ 1) (h : wp d 100 b_X10_eastBits K 400 (b_X10_eastBits 0) (ent 1 av) [] σ) : Ev (d + 1) 100 av σ K := Ev.enter (by decide) (by decide +kernel) hl (wp_ok k_X10_eastBits 400 _ 0 _ _ _ (k_X10_eastBits 0) h)
theorem r_X10_eastBits : mR 100 = (some .int) := by decide +kernel
def b_X10_stopAlone (t : Nat) : List Instr := match t with
  | 0 => [.aload 0, .iload 1, .invokeinterface 1306 1, .istore 2, .sipush 0, .istore 3, .jsr 8]
  | 8 => [.goto_w 8]
  | 47 => [.iload 3, .ireturn]
  | 49 => [.iinc 3 1, .goto 8]
  | 55 => [.sipush (-1), .ireturn]
  | _ => []
theorem k_X10_stopAlone : ∀ t, bok (mC 101) (mB 101) (mL 101) t (b_X10_stopAlone t) = true := by
  intro t
  unfold b_X10_stopAlone
  split
  all_goals first | decide +kernel | rfl
theorem e_X10_stopAlone {d : Nat} {av : List AV} {σ : Mem} {K : Option AV → Mem → Prop} (hl : (entL av).length ≤ 4) (h : wp d 101 b_X10_stopAlone K 400 (b_X10_stopAlone 0) (ent 4 av) [] σ) : Ev (d + 1) 101 av σ K := Ev.enter (by decide) (by decide +kernel) hl (wp_ok k_X10_stopAlone 400 _ 0 _ _ _ (k_X10_stopAlone 0) h)
theorem r_X10_stopAlone : mR 101 = (some .int) := by decide +kernel
def h_X10_stopAlone_8 : List Instr := [.iload 3, .aload 0, .instanceof 643, .getfield 197, .if_icmp .ge 55, .aload 0, .iload 3, .invokeinterface 1418 1, .ifCond .ne 47, .iload 2, .aload 0, .iload 3, .invokeinterface 1466 1, .if_icmp .gt 47, .aload 0, .iload 1, .iload 3, .iload 2, .sipush 0, .invokeinterface 1530 4, .ifCond .ne 49, .jsr 47]
theorem l_X10_stopAlone_8 {d : Nat} {ls st : List AV} {σ : Mem} {K : Option AV → Mem → Prop} (h : wp d 101 b_X10_stopAlone K 400 h_X10_stopAlone_8 ls st σ) : Rn (d + 1) 101 8 ls st σ K := wp_ok k_X10_stopAlone 400 _ 8 _ _ _ (by decide +kernel) h
def b_X10_ableBits (t : Nat) : List Instr := match t with
  | 0 => [.sipush 0, .istore 1, .sipush 0, .istore 2, .jsr 4]
  | 4 => [.goto_w 4]
  | 30 => [.iinc 2 1, .goto 4]
  | 36 => [.iload 1, .ireturn]
  | _ => []
theorem k_X10_ableBits : ∀ t, bok (mC 102) (mB 102) (mL 102) t (b_X10_ableBits t) = true := by
  intro t
  unfold b_X10_ableBits
  split
  all_goals first | decide +kernel | rfl
theorem e_X10_ableBits {d : Nat} {av : List AV} {σ : Mem} {K : Option AV → Mem → Prop} (hl : (entL av).length ≤ 3) (h : wp d 102 b_X10_ableBits K 400 (b_X10_ableBits 0) (ent 3 av) [] σ) : Ev (d + 1) 102 av σ K := Ev.enter (by decide) (by decide +kernel) hl (wp_ok k_X10_ableBits 400 _ 0 _ _ _ (k_X10_ableBits 0) h)
theorem r_X10_ableBits : mR 102 = (some .int) := by decide +kernel
def h_X10_ableBits_4 : List Instr := [.iload 2, .aload 0, .instanceof 643, .getfield 198, .if_icmp .ge 36, .aload 0, .iload 2, .invokeinterface 1626 1, .sipush (-1), .if_icmp .ne 30, .iload 1, .sipush 1, .iload 2, .ishl, .ior, .istore 1, .jsr 30]
theorem l_X10_ableBits_4 {d : Nat} {ls st : List AV} {σ : Mem} {K : Option AV → Mem → Prop} (h : wp d 102 b_X10_ableBits K 400 h_X10_ableBits_4 ls st σ) : Rn (d + 1) 102 4 ls st σ K := wp_ok k_X10_ableBits 400 _ 4 _ _ _ (by decide +kernel) h
def b_X10_mendsNeeded (t : Nat) : List Instr := match t with
  | 0 => [.aload 0, .iload 1, .invokeinterface 1306 1, .istore 3, .aload 0, .iload 1, .iload 2, .iload 3, .sipush 0, .invokeinterface 1530 4, .ifCond .ne 19, .sipush (-1), .ireturn]
  | 19 => [.sipush 0, .iload 3, .aload 0, .iload 2, .invokeinterface 1466 1, .isub, .dcmp .g, .sipush 9, .iadd, .sipush 10, .idiv, .istore 4, .aload 0, .checkcast 1310960, .checkcast 922736, .iload 2, .iaload, .iload 4, .iadd, .sipush 99, .if_icmp .le 57, .sipush (-1), .ireturn]
  | 57 => [.iload 4, .aload 0, .iload 2, .invokeinterface 1418 1, .ifCond .eq 71, .sipush 1, .goto 72]
  | 71 => [.sipush 0, .jsr 72]
  | 72 => [.iadd, .ireturn]
  | _ => []
theorem k_X10_mendsNeeded : ∀ t, bok (mC 103) (mB 103) (mL 103) t (b_X10_mendsNeeded t) = true := by
  intro t
  unfold b_X10_mendsNeeded
  split
  all_goals first | decide +kernel | rfl
theorem e_X10_mendsNeeded {d : Nat} {av : List AV} {σ : Mem} {K : Option AV → Mem → Prop} (hl : (entL av).length ≤ 5) (h : wp d 103 b_X10_mendsNeeded K 400 (b_X10_mendsNeeded 0) (ent 5 av) [] σ) : Ev (d + 1) 103 av σ K := Ev.enter (by decide) (by decide +kernel) hl (wp_ok k_X10_mendsNeeded 400 _ 0 _ _ _ (k_X10_mendsNeeded 0) h)
theorem r_X10_mendsNeeded : mR 103 = (some .int) := by decide +kernel
def b_X10_allPapers (t : Nat) : List Instr := match t with
  | 0 => [.sipush 0, .istore 1, .sipush 0, .istore 2, .jsr 4]
  | 4 => [.goto_w 4]
  | 29 => [.iload 1, .ireturn]
  | _ => []
theorem k_X10_allPapers : ∀ t, bok (mC 104) (mB 104) (mL 104) t (b_X10_allPapers t) = true := by
  intro t
  unfold b_X10_allPapers
  split
  all_goals first | decide +kernel | rfl
theorem e_X10_allPapers {d : Nat} {av : List AV} {σ : Mem} {K : Option AV → Mem → Prop} (hl : (entL av).length ≤ 3) (h : wp d 104 b_X10_allPapers K 400 (b_X10_allPapers 0) (ent 3 av) [] σ) : Ev (d + 1) 104 av σ K := Ev.enter (by decide) (by decide +kernel) hl (wp_ok k_X10_allPapers 400 _ 0 _ _ _ (k_X10_allPapers 0) h)
theorem r_X10_allPapers : mR 104 = (some .int) := by decide +kernel
def h_X10_allPapers_4 : List Instr := [.iload 2, .aload 0, .instanceof 643, .getfield 198, .if_icmp .ge 29, .iload 1, .aload 0, .iload 2, .invokeinterface 1370 1, .iadd, .istore 1, .iinc 2 1, .goto 4]
theorem l_X10_allPapers_4 {d : Nat} {ls st : List AV} {σ : Mem} {K : Option AV → Mem → Prop} (h : wp d 104 b_X10_allPapers K 400 h_X10_allPapers_4 ls st σ) : Rn (d + 1) 104 4 ls st σ K := wp_ok k_X10_allPapers 400 _ 4 _ _ _ (by decide +kernel) h
def b_X10_allDebt (t : Nat) : List Instr := match t with
  | 0 => [.sipush 0, .istore 1, .sipush 0, .istore 2, .jsr 4]
  | 4 => [.goto_w 4]
  | 29 => [.iload 1, .ireturn]
  | _ => []
theorem k_X10_allDebt : ∀ t, bok (mC 105) (mB 105) (mL 105) t (b_X10_allDebt t) = true := by
  intro t
  unfold b_X10_allDebt
  split
  all_goals first | decide +kernel | rfl
theorem e_X10_allDebt {d : Nat} {av : List AV} {σ : Mem} {K : Option AV → Mem → Prop} (hl : (entL av).length ≤ 3) (h : wp d 105 b_X10_allDebt K 400 (b_X10_allDebt 0) (ent 3 av) [] σ) : Ev (d + 1) 105 av σ K := Ev.enter (by decide) (by decide +kernel) hl (wp_ok k_X10_allDebt 400 _ 0 _ _ _ (k_X10_allDebt 0) h)
theorem r_X10_allDebt : mR 105 = (some .int) := by decide +kernel
def h_X10_allDebt_4 : List Instr := [.iload 2, .aload 0, .instanceof 643, .getfield 198, .if_icmp .ge 29, .iload 1, .aload 0, .iload 2, .invokeinterface 1322 1, .iadd, .istore 1, .iinc 2 1, .goto 4]
theorem l_X10_allDebt_4 {d : Nat} {ls st : List AV} {σ : Mem} {K : Option AV → Mem → Prop} (h : wp d 105 b_X10_allDebt K 400 h_X10_allDebt_4 ls st σ) : Rn (d + 1) 105 4 ls st σ K := wp_ok k_X10_allDebt 400 _ 4 _ _ _ (by decide +kernel) h
def b_X11_feed (t : Nat) : List Instr := match t with
  | 0 => [.aload 0, .getfield 717, .sipush 20, .iadd, .sipush 900, .if_icmp .le 16, .sipush (-5), .ireturn]
  | 16 => [.aload 0, .iload 1, .invokeinterface 1723 1, .aload 0, .iload 2, .invokeinterface 1723 1, .aload 0, .iload 3, .invokeinterface 1723 1, .aload 0, .iload 4, .invokeinterface 1723 1, .aload 0, .iload 5, .invokeinterface 1723 1, .aload 0, .getfield 717, .ireturn]
  | _ => []
theorem k_X11_feed : ∀ t, bok (mC 106) (mB 106) (mL 106) t (b_X11_feed t) = true := by
  intro t
  unfold b_X11_feed
  split
  all_goals first | decide +kernel | rfl
theorem e_X11_feed {d : Nat} {av : List AV} {σ : Mem} {K : Option AV → Mem → Prop} (hl : (entL av).length ≤ 6) (h : wp d 106 b_X11_feed K 400 (b_X11_feed 0) (ent 6 av) [] σ) : Ev (d + 1) 106 av σ K := Ev.enter (by decide) (by decide +kernel) hl (wp_ok k_X11_feed 400 _ 0 _ _ _ (k_X11_feed 0) h)
theorem r_X11_feed : mR 106 = (some .int) := by decide +kernel
def b_X11_feedInt (t : Nat) : List Instr := match t with
  | 0 => [.sipush 24, .istore 2, .jsr 3]
  | 3 => [.goto_w 3]
  | 42 => [.iinc 2 (-8), .goto 3]
  | 48 => [.return_]
  | _ => []
theorem k_X11_feedInt : ∀ t, bok (mC 107) (mB 107) (mL 107) t (b_X11_feedInt t) = true := by
  intro t
  unfold b_X11_feedInt
  split
  all_goals first | decide +kernel | rfl
theorem e_X11_feedInt {d : Nat} {av : List AV} {σ : Mem} {K : Option AV → Mem → Prop} (hl : (entL av).length ≤ 3) (h : wp d 107 b_X11_feedInt K 400 (b_X11_feedInt 0) (ent 3 av) [] σ) : Ev (d + 1) 107 av σ K := Ev.enter (by decide) (by decide +kernel) hl (wp_ok k_X11_feedInt 400 _ 0 _ _ _ (k_X11_feedInt 0) h)
theorem r_X11_feedInt : mR 107 = none := by decide +kernel
def h_X11_feedInt_3 : List Instr := [.iload 2, .ifCond .lt 48, .aload 0, .getfield 717, .aload 0, .checkcast 1443088, .arraylength, .if_icmp .ge 42, .aload 0, .checkcast 1443088, .aload 0, .getfield 717, .iload 1, .iload 2, .iushr, .i2b, .bastore, .aload 0, .dup, .getfield 717, .sipush 1, .iadd, .putfield 717, .jsr 42]
theorem l_X11_feedInt_3 {d : Nat} {ls st : List AV} {σ : Mem} {K : Option AV → Mem → Prop} (h : wp d 107 b_X11_feedInt K 400 h_X11_feedInt_3 ls st σ) : Rn (d + 1) 107 3 ls st σ K := wp_ok k_X11_feedInt 400 _ 3 _ _ _ (by decide +kernel) h
def b_X11_fault (t : Nat) : List Instr := match t with
  | 0 => [.iload 1, .lookupswitch 44 #[(0, 28), (1, 36)]]
  | 28 => [.aload 0, .checkcast 1443968, .getfield 266, .ireturn]
  | 36 => [.aload 0, .checkcast 1443968, .getfield 267, .ireturn]
  | 44 => [.sipush (-1), .ireturn]
  | _ => []
theorem k_X11_fault : ∀ t, bok (mC 109) (mB 109) (mL 109) t (b_X11_fault t) = true := by
  intro t
  unfold b_X11_fault
  split
  all_goals first | decide +kernel | rfl
theorem e_X11_fault {d : Nat} {av : List AV} {σ : Mem} {K : Option AV → Mem → Prop} (hl : (entL av).length ≤ 2) (h : wp d 109 b_X11_fault K 400 (b_X11_fault 0) (ent 2 av) [] σ) : Ev (d + 1) 109 av σ K := Ev.enter (by decide) (by decide +kernel) hl (wp_ok k_X11_fault 400 _ 0 _ _ _ (k_X11_fault 0) h)
theorem r_X11_fault : mR 109 = (some .int) := by decide +kernel
def b_X11_person (t : Nat) : List Instr := match t with
  | 0 => [.aload 0, .checkcast 1446208, .iload 1, .invokeinterface 1482 1, .ifCond .ne 14, .sipush (-2), .ireturn]
  | 14 => [.iload 2, .tableswitch 97 0 4 #[48, 61, 70, 79, 88]]
  | 48 => [.aload 0, .checkcast 1446208, .checkcast 1310960, .checkcast 918576, .iload 1, .iaload, .ireturn]
  | 61 => [.aload 0, .checkcast 1446208, .iload 1, .invokeinterface 1322 1, .ireturn]
  | 70 => [.aload 0, .checkcast 1446208, .iload 1, .invokeinterface 1370 1, .ireturn]
  | 79 => [.aload 0, .checkcast 1446208, .iload 1, .invokeinterface 1386 1, .ireturn]
  | 88 => [.aload 0, .checkcast 1446208, .iload 1, .invokeinterface 1306 1, .ireturn]
  | 97 => [.sipush (-2), .ireturn]
  | _ => []
theorem k_X11_person : ∀ t, bok (mC 110) (mB 110) (mL 110) t (b_X11_person t) = true := by
  intro t
  unfold b_X11_person
  split
  all_goals first | decide +kernel | rfl
theorem e_X11_person {d : Nat} {av : List AV} {σ : Mem} {K : Option AV → Mem → Prop} (hl : (entL av).length ≤ 3) (h : wp d 110 b_X11_person K 400 (b_X11_person 0) (ent 3 av) [] σ) : Ev (d + 1) 110 av σ K := Ev.enter (by decide) (by decide +kernel) hl (wp_ok k_X11_person 400 _ 0 _ _ _ (k_X11_person 0) h)
theorem r_X11_person : mR 110 = (some .int) := by decide +kernel
def b_X11_owes (t : Nat) : List Instr := match t with
  | 0 => [.aload 0, .checkcast 1446208, .iload 1, .invokeinterface 1482 1, .ifCond .eq 22, .aload 0, .checkcast 1446208, .iload 2, .invokeinterface 1482 1, .ifCond .ne 25, .jsr 22]
  | 22 => [.sipush (-2), .ireturn]
  | 25 => [.aload 0, .checkcast 1446208, .iload 1, .iload 2, .invokeinterface 1338 2, .ireturn]
  | _ => []
theorem k_X11_owes : ∀ t, bok (mC 111) (mB 111) (mL 111) t (b_X11_owes t) = true := by
  intro t
  unfold b_X11_owes
  split
  all_goals first | decide +kernel | rfl
theorem e_X11_owes {d : Nat} {av : List AV} {σ : Mem} {K : Option AV → Mem → Prop} (hl : (entL av).length ≤ 3) (h : wp d 111 b_X11_owes K 400 (b_X11_owes 0) (ent 3 av) [] σ) : Ev (d + 1) 111 av σ K := Ev.enter (by decide) (by decide +kernel) hl (wp_ok k_X11_owes 400 _ 0 _ _ _ (k_X11_owes 0) h)
theorem r_X11_owes : mR 111 = (some .int) := by decide +kernel
def b_X11_plank (t : Nat) : List Instr := match t with
  | 0 => [.aload 0, .checkcast 1446208, .iload 1, .invokeinterface 1450 1, .ifCond .ne 14, .sipush (-2), .ireturn]
  | 14 => [.iload 2, .tableswitch 99 0 3 #[44, 53, 69, 86]]
  | 44 => [.aload 0, .checkcast 1446208, .iload 1, .invokeinterface 1466 1, .ireturn]
  | 53 => [.aload 0, .checkcast 1446208, .invokeinterface 1498 0, .aload 0, .checkcast 1446208, .iload 1, .invokeinterface 1434 1, .ireturn]
  | 69 => [.aload 0, .checkcast 1446208, .iload 1, .invokeinterface 1418 1, .ifCond .eq 84, .sipush 1, .goto 85]
  | 84 => [.sipush 0, .jsr 85]
  | 85 => [.ireturn]
  | 86 => [.aload 0, .checkcast 1446208, .checkcast 1310960, .checkcast 922736, .iload 1, .iaload, .ireturn]
  | 99 => [.sipush (-2), .ireturn]
  | _ => []
theorem k_X11_plank : ∀ t, bok (mC 112) (mB 112) (mL 112) t (b_X11_plank t) = true := by
  intro t
  unfold b_X11_plank
  split
  all_goals first | decide +kernel | rfl
theorem e_X11_plank {d : Nat} {av : List AV} {σ : Mem} {K : Option AV → Mem → Prop} (hl : (entL av).length ≤ 3) (h : wp d 112 b_X11_plank K 400 (b_X11_plank 0) (ent 3 av) [] σ) : Ev (d + 1) 112 av σ K := Ev.enter (by decide) (by decide +kernel) hl (wp_ok k_X11_plank 400 _ 0 _ _ _ (k_X11_plank 0) h)
theorem r_X11_plank : mR 112 = (some .int) := by decide +kernel
def b_X11_seed (t : Nat) : List Instr := match t with
  | 0 => [.aload 0, .checkcast 1454144, .aload 0, .checkcast 1446208, .checkcast 1310960, .invokeinterface 338 1, .aload 0, .checkcast 1446208, .checkcast 1310960, .getfield 454, .istore 2, .aload 0, .checkcast 1446208, .checkcast 1310960, .iload 1, .putfield 454, .aload 0, .checkcast 1454144, .invokeinterface 354 0, .iload 2, .ireturn]
  | _ => []
theorem k_X11_seed : ∀ t, bok (mC 113) (mB 113) (mL 113) t (b_X11_seed t) = true := by
  intro t
  unfold b_X11_seed
  split
  all_goals first | decide +kernel | rfl
theorem e_X11_seed {d : Nat} {av : List AV} {σ : Mem} {K : Option AV → Mem → Prop} (hl : (entL av).length ≤ 3) (h : wp d 113 b_X11_seed K 400 (b_X11_seed 0) (ent 3 av) [] σ) : Ev (d + 1) 113 av σ K := Ev.enter (by decide) (by decide +kernel) hl (wp_ok k_X11_seed 400 _ 0 _ _ _ (k_X11_seed 0) h)
theorem r_X11_seed : mR 113 = (some .int) := by decide +kernel
def b_X11_step (t : Nat) : List Instr := match t with
  | 0 => [.aload 0, .checkcast 1454144, .aload 0, .checkcast 1446208, .checkcast 1310960, .invokeinterface 338 1, .aload 0, .checkcast 1449984, .iload 1, .iload 2, .ifCond .eq 27, .sipush 1, .goto 28]
  | 27 => [.sipush (-1), .jsr 28]
  | 28 => [.invokeinterface 0 2, .istore 3, .aload 0, .iload 3, .invokeinterface 1851 1, .ifCond .eq 55, .aload 0, .checkcast 1446208, .checkcast 1310960, .checkcast 918576, .iload 1, .iaload, .goto 59]
  | 55 => [.sipush (-10), .iload 3, .isub, .jsr 59]
  | 59 => [.ireturn]
  | _ => []
theorem k_X11_step : ∀ t, bok (mC 114) (mB 114) (mL 114) t (b_X11_step t) = true := by
  intro t
  unfold b_X11_step
  split
  all_goals first | decide +kernel | rfl
theorem e_X11_step {d : Nat} {av : List AV} {σ : Mem} {K : Option AV → Mem → Prop} (hl : (entL av).length ≤ 4) (h : wp d 114 b_X11_step K 400 (b_X11_step 0) (ent 4 av) [] σ) : Ev (d + 1) 114 av σ K := Ev.enter (by decide) (by decide +kernel) hl (wp_ok k_X11_step 400 _ 0 _ _ _ (k_X11_step 0) h)
theorem r_X11_step : mR 114 = (some .int) := by decide +kernel
def b_X11_ended (t : Nat) : List Instr := match t with
  | 0 => [.iload 1, .ifCond .ne 11, .aload 0, .checkcast 1454144, .invokeinterface 354 0, .jsr 11]
  | 11 => [.iload 1, .ifCond .ne 19, .sipush 1, .goto 20]
  | 19 => [.sipush 0, .jsr 20]
  | 20 => [.ireturn]
  | _ => []
theorem k_X11_ended : ∀ t, bok (mC 115) (mB 115) (mL 115) t (b_X11_ended t) = true := by
  intro t
  unfold b_X11_ended
  split
  all_goals first | decide +kernel | rfl
theorem e_X11_ended {d : Nat} {av : List AV} {σ : Mem} {K : Option AV → Mem → Prop} (hl : (entL av).length ≤ 2) (h : wp d 115 b_X11_ended K 400 (b_X11_ended 0) (ent 2 av) [] σ) : Ev (d + 1) 115 av σ K := Ev.enter (by decide) (by decide +kernel) hl (wp_ok k_X11_ended 400 _ 0 _ _ _ (k_X11_ended 0) h)
theorem r_X11_ended : mR 115 = (some .boolean) := by decide +kernel
def b_X11_hand (t : Nat) : List Instr := match t with
  | 0 => [.aload 0, .checkcast 1454144, .aload 0, .checkcast 1446208, .checkcast 1310960, .invokeinterface 338 1, .aload 0, .checkcast 1449984, .iload 1, .iload 2, .invokeinterface 64 2, .istore 3, .aload 0, .iload 3, .invokeinterface 1851 1, .ifCond .eq 47, .aload 0, .checkcast 1446208, .checkcast 1310960, .checkcast 918576, .iload 1, .iaload, .goto 51]
  | 47 => [.sipush (-10), .iload 3, .isub, .jsr 51]
  | 51 => [.ireturn]
  | _ => []
theorem k_X11_hand : ∀ t, bok (mC 116) (mB 116) (mL 116) t (b_X11_hand t) = true := by
  intro t
  unfold b_X11_hand
  split
  all_goals first | decide +kernel | rfl
theorem e_X11_hand {d : Nat} {av : List AV} {σ : Mem} {K : Option AV → Mem → Prop} (hl : (entL av).length ≤ 4) (h : wp d 116 b_X11_hand K 400 (b_X11_hand 0) (ent 4 av) [] σ) : Ev (d + 1) 116 av σ K := Ev.enter (by decide) (by decide +kernel) hl (wp_ok k_X11_hand 400 _ 0 _ _ _ (k_X11_hand 0) h)
theorem r_X11_hand : mR 116 = (some .int) := by decide +kernel
def b_X11_tear (t : Nat) : List Instr := match t with
  | 0 => [.aload 0, .checkcast 1454144, .aload 0, .checkcast 1446208, .checkcast 1310960, .invokeinterface 338 1, .aload 0, .checkcast 1446208, .iload 1, .iload 2, .invokeinterface 1338 2, .istore 3, .aload 0, .checkcast 1449984, .iload 1, .iload 2, .invokeinterface 80 2, .istore 4, .aload 0, .iload 4, .invokeinterface 1851 1, .ifCond .eq 48, .iload 3, .goto 53]
  | 48 => [.sipush (-10), .iload 4, .isub, .jsr 53]
  | 53 => [.ireturn]
  | _ => []
theorem k_X11_tear : ∀ t, bok (mC 117) (mB 117) (mL 117) t (b_X11_tear t) = true := by
  intro t
  unfold b_X11_tear
  split
  all_goals first | decide +kernel | rfl
theorem e_X11_tear {d : Nat} {av : List AV} {σ : Mem} {K : Option AV → Mem → Prop} (hl : (entL av).length ≤ 5) (h : wp d 117 b_X11_tear K 400 (b_X11_tear 0) (ent 5 av) [] σ) : Ev (d + 1) 117 av σ K := Ev.enter (by decide) (by decide +kernel) hl (wp_ok k_X11_tear 400 _ 0 _ _ _ (k_X11_tear 0) h)
theorem r_X11_tear : mR 117 = (some .int) := by decide +kernel
def b_X11_cancel (t : Nat) : List Instr := match t with
  | 0 => [.aload 0, .iload 1, .invokeinterface 1915 1, .istore 2, .iload 2, .ifCond .eq 12, .iload 2, .ireturn]
  | 12 => [.aload 0, .checkcast 1454144, .aload 0, .checkcast 1446208, .checkcast 1310960, .invokeinterface 338 1, .aload 0, .checkcast 1449984, .aload 0, .checkcast 1463600, .iload 1, .aaload, .invokeinterface 96 1, .istore 3, .aload 0, .iload 3, .invokeinterface 1851 1, .ifCond .eq 58, .aload 0, .checkcast 1449984, .getfield 2, .goto 62]
  | 58 => [.sipush (-10), .iload 3, .isub, .jsr 62]
  | 62 => [.ireturn]
  | _ => []
theorem k_X11_cancel : ∀ t, bok (mC 118) (mB 118) (mL 118) t (b_X11_cancel t) = true := by
  intro t
  unfold b_X11_cancel
  split
  all_goals first | decide +kernel | rfl
theorem e_X11_cancel {d : Nat} {av : List AV} {σ : Mem} {K : Option AV → Mem → Prop} (hl : (entL av).length ≤ 4) (h : wp d 118 b_X11_cancel K 400 (b_X11_cancel 0) (ent 4 av) [] σ) : Ev (d + 1) 118 av σ K := Ev.enter (by decide) (by decide +kernel) hl (wp_ok k_X11_cancel 400 _ 0 _ _ _ (k_X11_cancel 0) h)
theorem r_X11_cancel : mR 118 = (some .int) := by decide +kernel
def b_X11_trayCode (t : Nat) : List Instr := match t with
  | 0 => [.aload 0, .iload 1, .invokeinterface 1931 1, .ifCond .ne 11, .sipush (-2), .ireturn]
  | 11 => [.aload 0, .checkcast 1463600, .iload 1, .aaload, .getfield 513, .ifCond .eq 28, .sipush (-6), .goto 29]
  | 28 => [.sipush 0, .jsr 29]
  | 29 => [.ireturn]
  | _ => []
theorem k_X11_trayCode : ∀ t, bok (mC 119) (mB 119) (mL 119) t (b_X11_trayCode t) = true := by
  intro t
  unfold b_X11_trayCode
  split
  all_goals first | decide +kernel | rfl
theorem e_X11_trayCode {d : Nat} {av : List AV} {σ : Mem} {K : Option AV → Mem → Prop} (hl : (entL av).length ≤ 2) (h : wp d 119 b_X11_trayCode K 400 (b_X11_trayCode 0) (ent 2 av) [] σ) : Ev (d + 1) 119 av σ K := Ev.enter (by decide) (by decide +kernel) hl (wp_ok k_X11_trayCode 400 _ 0 _ _ _ (k_X11_trayCode 0) h)
theorem r_X11_trayCode : mR 119 = (some .int) := by decide +kernel
def b_X11_isTray (t : Nat) : List Instr := match t with
  | 0 => [.iload 1, .ifCond .lt 13, .iload 1, .sipush 4, .if_icmp .ge 13, .sipush 1, .goto 14]
  | 13 => [.sipush 0, .jsr 14]
  | 14 => [.ireturn]
  | _ => []
theorem k_X11_isTray : ∀ t, bok (mC 120) (mB 120) (mL 120) t (b_X11_isTray t) = true := by
  intro t
  unfold b_X11_isTray
  split
  all_goals first | decide +kernel | rfl
theorem e_X11_isTray {d : Nat} {av : List AV} {σ : Mem} {K : Option AV → Mem → Prop} (hl : (entL av).length ≤ 2) (h : wp d 120 b_X11_isTray K 400 (b_X11_isTray 0) (ent 2 av) [] σ) : Ev (d + 1) 120 av σ K := Ev.enter (by decide) (by decide +kernel) hl (wp_ok k_X11_isTray 400 _ 0 _ _ _ (k_X11_isTray 0) h)
theorem r_X11_isTray : mR 120 = (some .boolean) := by decide +kernel
def b_X11_mend (t : Nat) : List Instr := match t with
  | 0 => [.aload 0, .checkcast 1454144, .aload 0, .checkcast 1446208, .checkcast 1310960, .invokeinterface 338 1, .aload 0, .checkcast 1449984, .iload 1, .invokeinterface 112 1, .istore 2, .aload 0, .iload 2, .invokeinterface 1851 1, .ifCond .eq 42, .aload 0, .checkcast 1446208, .iload 1, .invokeinterface 1466 1, .goto 46]
  | 42 => [.sipush (-10), .iload 2, .isub, .jsr 46]
  | 46 => [.ireturn]
  | _ => []
theorem k_X11_mend : ∀ t, bok (mC 121) (mB 121) (mL 121) t (b_X11_mend t) = true := by
  intro t
  unfold b_X11_mend
  split
  all_goals first | decide +kernel | rfl
theorem e_X11_mend {d : Nat} {av : List AV} {σ : Mem} {K : Option AV → Mem → Prop} (hl : (entL av).length ≤ 3) (h : wp d 121 b_X11_mend K 400 (b_X11_mend 0) (ent 3 av) [] σ) : Ev (d + 1) 121 av σ K := Ev.enter (by decide) (by decide +kernel) hl (wp_ok k_X11_mend 400 _ 0 _ _ _ (k_X11_mend 0) h)
theorem r_X11_mend : mR 121 = (some .int) := by decide +kernel
def b_X11_days (t : Nat) : List Instr := match t with
  | 0 => [.iload 1, .sipush 1, .if_icmp .lt 11, .iload 1, .sipush 99, .if_icmp .le 14, .jsr 11]
  | 11 => [.sipush (-3), .ireturn]
  | 14 => [.aload 0, .checkcast 1454144, .aload 0, .checkcast 1446208, .checkcast 1310960, .invokeinterface 338 1, .sipush 0, .istore 2, .sipush 0, .istore 3, .jsr 32]
  | 32 => [.goto_w 32]
  | 64 => [.aload 0, .checkcast 1454144, .invokeinterface 354 0, .iload 2, .ireturn]
  | _ => []
theorem k_X11_days : ∀ t, bok (mC 122) (mB 122) (mL 122) t (b_X11_days t) = true := by
  intro t
  unfold b_X11_days
  split
  all_goals first | decide +kernel | rfl
theorem e_X11_days {d : Nat} {av : List AV} {σ : Mem} {K : Option AV → Mem → Prop} (hl : (entL av).length ≤ 4) (h : wp d 122 b_X11_days K 400 (b_X11_days 0) (ent 4 av) [] σ) : Ev (d + 1) 122 av σ K := Ev.enter (by decide) (by decide +kernel) hl (wp_ok k_X11_days 400 _ 0 _ _ _ (k_X11_days 0) h)
theorem r_X11_days : mR 122 = (some .int) := by decide +kernel
def h_X11_days_32 : List Instr := [.iload 3, .iload 1, .if_icmp .ge 64, .aload 0, .checkcast 1449984, .invokeinterface 128 0, .pop, .iload 2, .aload 0, .checkcast 1446208, .checkcast 1310960, .getfield 453, .iadd, .istore 2, .iinc 3 1, .goto 32]
theorem l_X11_days_32 {d : Nat} {ls st : List AV} {σ : Mem} {K : Option AV → Mem → Prop} (h : wp d 122 b_X11_days K 400 h_X11_days_32 ls st σ) : Rn (d + 1) 122 32 ls st σ K := wp_ok k_X11_days 400 _ 32 _ _ _ (by decide +kernel) h
def b_X11_undo (t : Nat) : List Instr := match t with
  | 0 => [.iload 1, .sipush 1, .if_icmp .lt 22, .iload 1, .sipush 10, .if_icmp .gt 22, .iload 1, .aload 0, .checkcast 1454144, .getfield 130, .if_icmp .le 25, .jsr 22]
  | 22 => [.sipush (-3), .ireturn]
  | 25 => [.aload 0, .checkcast 1454144, .iload 1, .aload 0, .checkcast 1446208, .checkcast 1310960, .invokeinterface 370 2, .aload 0, .checkcast 1454144, .getfield 130, .ireturn]
  | _ => []
theorem k_X11_undo : ∀ t, bok (mC 123) (mB 123) (mL 123) t (b_X11_undo t) = true := by
  intro t
  unfold b_X11_undo
  split
  all_goals first | decide +kernel | rfl
theorem e_X11_undo {d : Nat} {av : List AV} {σ : Mem} {K : Option AV → Mem → Prop} (hl : (entL av).length ≤ 2) (h : wp d 123 b_X11_undo K 400 (b_X11_undo 0) (ent 2 av) [] σ) : Ev (d + 1) 123 av σ K := Ev.enter (by decide) (by decide +kernel) hl (wp_ok k_X11_undo 400 _ 0 _ _ _ (k_X11_undo 0) h)
theorem r_X11_undo : mR 123 = (some .int) := by decide +kernel
def b_X11_judge (t : Nat) : List Instr := match t with
  | 0 => [.aload 0, .iload 1, .invokeinterface 1931 1, .ifCond .eq 17, .iload 2, .ifCond .lt 17, .iload 2, .sipush 3, .if_icmp .le 20, .jsr 17]
  | 17 => [.sipush (-2), .ireturn]
  | 20 => [.aload 0, .checkcast 1463600, .iload 1, .aaload, .astore 3, .aload 3, .getfield 513, .ifCond .eq 37, .sipush (-6), .ireturn]
  | 37 => [.aload 0, .checkcast 1448257, .aload 0, .checkcast 1446208, .invokeinterface 1562 1, .aload 0, .checkcast 1452033, .aload 3, .invokeinterface 160 1, .istore 4, .iload 2, .tableswitch 116 0 2 #[84, 100, 108]]
  | 84 => [.iload 4, .aload 3, .getfield 515, .if_icmp .ge 98, .iload 4, .goto 99]
  | 98 => [.sipush (-1), .jsr 99]
  | 99 => [.ireturn]
  | 100 => [.aload 0, .checkcast 1452033, .getfield 1, .ireturn]
  | 108 => [.aload 0, .checkcast 1448257, .invokeinterface 1578 0, .ireturn]
  | 116 => [.aload 0, .checkcast 1448257, .invokeinterface 1610 0, .ireturn]
  | _ => []
theorem k_X11_judge : ∀ t, bok (mC 124) (mB 124) (mL 124) t (b_X11_judge t) = true := by
  intro t
  unfold b_X11_judge
  split
  all_goals first | decide +kernel | rfl
theorem e_X11_judge {d : Nat} {av : List AV} {σ : Mem} {K : Option AV → Mem → Prop} (hl : (entL av).length ≤ 5) (h : wp d 124 b_X11_judge K 400 (b_X11_judge 0) (ent 5 av) [] σ) : Ev (d + 1) 124 av σ K := Ev.enter (by decide) (by decide +kernel) hl (wp_ok k_X11_judge 400 _ 0 _ _ _ (k_X11_judge 0) h)
theorem r_X11_judge : mR 124 = (some .int) := by decide +kernel
def b_X11_perform (t : Nat) : List Instr := match t with
  | 0 => [.aload 0, .iload 1, .invokeinterface 1915 1, .istore 2, .iload 2, .ifCond .eq 12, .iload 2, .ireturn]
  | 12 => [.aload 0, .checkcast 1454144, .aload 0, .checkcast 1446208, .checkcast 1310960, .invokeinterface 338 1, .aload 0, .checkcast 1449984, .aload 0, .checkcast 1463600, .iload 1, .aaload, .invokeinterface 160 1, .istore 3, .iload 3, .ifCond .le 51, .aload 0, .checkcast 1454144, .invokeinterface 354 0, .jsr 51]
  | 51 => [.iload 3, .ireturn]
  | _ => []
theorem k_X11_perform : ∀ t, bok (mC 125) (mB 125) (mL 125) t (b_X11_perform t) = true := by
  intro t
  unfold b_X11_perform
  split
  all_goals first | decide +kernel | rfl
theorem e_X11_perform {d : Nat} {av : List AV} {σ : Mem} {K : Option AV → Mem → Prop} (hl : (entL av).length ≤ 4) (h : wp d 125 b_X11_perform K 400 (b_X11_perform 0) (ent 4 av) [] σ) : Ev (d + 1) 125 av σ K := Ev.enter (by decide) (by decide +kernel) hl (wp_ok k_X11_perform 400 _ 0 _ _ _ (k_X11_perform 0) h)
theorem r_X11_perform : mR 125 = (some .int) := by decide +kernel
def b_X11_season (t : Nat) : List Instr := match t with
  | 0 => [.iload 2, .sipush 1, .if_icmp .lt 11, .iload 2, .sipush 40, .if_icmp .le 14, .jsr 11]
  | 11 => [.sipush (-3), .ireturn]
  | 14 => [.aload 0, .checkcast 1454144, .aload 0, .checkcast 1446208, .checkcast 1310960, .invokeinterface 338 1, .aload 0, .checkcast 1446208, .checkcast 1310960, .getfield 454, .istore 3, .aload 0, .checkcast 1446208, .checkcast 1310960, .iload 1, .putfield 454, .sipush 0, .istore 4, .sipush 0, .istore 5, .jsr 56]
  | 56 => [.goto_w 56]
  | 78 => [.sipush 0, .jsr 79]
  | 79 => [.iadd, .istore 4, .iinc 5 1, .goto 56]
  | 88 => [.iload 4, .ifCond .le 103, .aload 0, .checkcast 1454144, .invokeinterface 354 0, .goto 114]
  | 103 => [.aload 0, .checkcast 1446208, .checkcast 1310960, .iload 3, .putfield 454, .jsr 114]
  | 114 => [.iload 4, .ireturn]
  | _ => []
theorem k_X11_season : ∀ t, bok (mC 126) (mB 126) (mL 126) t (b_X11_season t) = true := by
  intro t
  unfold b_X11_season
  split
  all_goals first | decide +kernel | rfl
theorem e_X11_season {d : Nat} {av : List AV} {σ : Mem} {K : Option AV → Mem → Prop} (hl : (entL av).length ≤ 6) (h : wp d 126 b_X11_season K 400 (b_X11_season 0) (ent 6 av) [] σ) : Ev (d + 1) 126 av σ K := Ev.enter (by decide) (by decide +kernel) hl (wp_ok k_X11_season 400 _ 0 _ _ _ (k_X11_season 0) h)
theorem r_X11_season : mR 126 = (some .int) := by decide +kernel
def h_X11_season_56 : List Instr := [.iload 5, .iload 2, .if_icmp .ge 88, .iload 4, .aload 0, .checkcast 1449984, .invokeinterface 192 0, .ifCond .ne 78, .sipush 1, .goto 79]
theorem l_X11_season_56 {d : Nat} {ls st : List AV} {σ : Mem} {K : Option AV → Mem → Prop} (h : wp d 126 b_X11_season K 400 h_X11_season_56 ls st σ) : Rn (d + 1) 126 56 ls st σ K := wp_ok k_X11_season 400 _ 56 _ _ _ (by decide +kernel) h
def b_X11_alone (t : Nat) : List Instr := match t with
  | 0 => [.aload 0, .checkcast 1446208, .iload 1, .invokeinterface 1482 1, .ifCond .eq 22, .aload 0, .checkcast 1446208, .iload 1, .invokeinterface 1626 1, .goto 24]
  | 22 => [.sipush (-2), .jsr 24]
  | 24 => [.ireturn]
  | _ => []
theorem k_X11_alone : ∀ t, bok (mC 127) (mB 127) (mL 127) t (b_X11_alone t) = true := by
  intro t
  unfold b_X11_alone
  split
  all_goals first | decide +kernel | rfl
theorem e_X11_alone {d : Nat} {av : List AV} {σ : Mem} {K : Option AV → Mem → Prop} (hl : (entL av).length ≤ 2) (h : wp d 127 b_X11_alone K 400 (b_X11_alone 0) (ent 2 av) [] σ) : Ev (d + 1) 127 av σ K := Ev.enter (by decide) (by decide +kernel) hl (wp_ok k_X11_alone 400 _ 0 _ _ _ (k_X11_alone 0) h)
theorem r_X11_alone : mR 127 = (some .int) := by decide +kernel
def b_X11_able (t : Nat) : List Instr := match t with
  | 0 => [.aload 0, .checkcast 1446208, .invokeinterface 1642 0, .ireturn]
  | _ => []
theorem k_X11_able : ∀ t, bok (mC 128) (mB 128) (mL 128) t (b_X11_able t) = true := by
  intro t
  unfold b_X11_able
  split
  all_goals first | decide +kernel | rfl
theorem e_X11_able {d : Nat} {av : List AV} {σ : Mem} {K : Option AV → Mem → Prop} (hl : (entL av).length ≤ 1) (h : wp d 128 b_X11_able K 400 (b_X11_able 0) (ent 1 av) [] σ) : Ev (d + 1) 128 av σ K := Ev.enter (by decide) (by decide +kernel) hl (wp_ok k_X11_able 400 _ 0 _ _ _ (k_X11_able 0) h)
theorem r_X11_able : mR 128 = (some .int) := by decide +kernel
def b_X11_tears (t : Nat) : List Instr := match t with
  | 0 => [.aload 0, .checkcast 1446208, .iload 1, .invokeinterface 1482 1, .ifCond .eq 20, .iload 2, .ifCond .lt 20, .iload 2, .sipush 1, .if_icmp .le 23, .jsr 20]
  | 20 => [.sipush (-2), .ireturn]
  | 23 => [.aload 0, .checkcast 1460512, .iload 1, .invokeinterface 1097 1, .istore 3, .iload 3, .sipush (-1), .if_icmp .ne 39, .sipush (-1), .ireturn]
  | 39 => [.iload 2, .ifCond .ne 50, .iload 3, .multianewarray 301 1, .goto 51]
  | 50 => [.iload 3, .jsr 51]
  | 51 => [.ireturn]
  | _ => []
theorem k_X11_tears : ∀ t, bok (mC 129) (mB 129) (mL 129) t (b_X11_tears t) = true := by
  intro t
  unfold b_X11_tears
  split
  all_goals first | decide +kernel | rfl
theorem e_X11_tears {d : Nat} {av : List AV} {σ : Mem} {K : Option AV → Mem → Prop} (hl : (entL av).length ≤ 4) (h : wp d 129 b_X11_tears K 400 (b_X11_tears 0) (ent 4 av) [] σ) : Ev (d + 1) 129 av σ K := Ev.enter (by decide) (by decide +kernel) hl (wp_ok k_X11_tears 400 _ 0 _ _ _ (k_X11_tears 0) h)
theorem r_X11_tears : mR 129 = (some .int) := by decide +kernel
def b_X11_row (t : Nat) : List Instr := match t with
  | 0 => [.aload 0, .iload 1, .invokeinterface 1915 1, .istore 2, .iload 2, .ifCond .eq 12, .iload 2, .ireturn]
  | 12 => [.aload 0, .checkcast 1463600, .iload 1, .aaload, .astore 3, .aload 3, .getfield 515, .sipush 1, .if_icmp .lt 36, .aload 3, .getfield 515, .sipush 6, .if_icmp .le 39, .jsr 36]
  | 36 => [.sipush (-4), .ireturn]
  | 39 => [.aload 3, .aload 0, .checkcast 1446208, .instanceof 643, .getfield 198, .invokeinterface 1016 1, .ifCond .ne 59, .sipush (-3), .ireturn]
  | 59 => [.aload 0, .checkcast 1456320, .aload 3, .invokeinterface 854 1, .ireturn]
  | _ => []
theorem k_X11_row : ∀ t, bok (mC 130) (mB 130) (mL 130) t (b_X11_row t) = true := by
  intro t
  unfold b_X11_row
  split
  all_goals first | decide +kernel | rfl
theorem e_X11_row {d : Nat} {av : List AV} {σ : Mem} {K : Option AV → Mem → Prop} (hl : (entL av).length ≤ 4) (h : wp d 130 b_X11_row K 400 (b_X11_row 0) (ent 4 av) [] σ) : Ev (d + 1) 130 av σ K := Ev.enter (by decide) (by decide +kernel) hl (wp_ok k_X11_row 400 _ 0 _ _ _ (k_X11_row 0) h)
theorem r_X11_row : mR 130 = (some .int) := by decide +kernel
def b_X11_order (t : Nat) : List Instr := match t with
  | 0 => [.aload 0, .iload 1, .invokeinterface 2123 1, .ifCond .eq 12, .iload 2, .ifCond .ge 15, .jsr 12]
  | 12 => [.sipush (-3), .ireturn]
  | 15 => [.aload 0, .checkcast 1456320, .iload 1, .invokeinterface 918 1, .istore 3, .iload 3, .ifCond .le 48, .iload 2, .iload 1, .multianewarray 301 1, .if_icmp .ge 48, .aload 0, .checkcast 1456320, .checkcast 793584, .iload 2, .iaload, .goto 49]
  | 48 => [.sipush (-1), .jsr 49]
  | 49 => [.ireturn]
  | _ => []
theorem k_X11_order : ∀ t, bok (mC 131) (mB 131) (mL 131) t (b_X11_order t) = true := by
  intro t
  unfold b_X11_order
  split
  all_goals first | decide +kernel | rfl
theorem e_X11_order {d : Nat} {av : List AV} {σ : Mem} {K : Option AV → Mem → Prop} (hl : (entL av).length ≤ 4) (h : wp d 131 b_X11_order K 400 (b_X11_order 0) (ent 4 av) [] σ) : Ev (d + 1) 131 av σ K := Ev.enter (by decide) (by decide +kernel) hl (wp_ok k_X11_order 400 _ 0 _ _ _ (k_X11_order 0) h)
theorem r_X11_order : mR 131 = (some .int) := by decide +kernel
def b_X11_isSet (t : Nat) : List Instr := match t with
  | 0 => [.sipush 1, .aload 0, .checkcast 1446208, .instanceof 643, .getfield 198, .ishl, .sipush 1, .isub, .istore 2, .iload 1, .ifCond .eq 31, .iload 1, .iload 2, .sipush (-1), .ixor, .iand, .ifCond .ne 31, .sipush 1, .goto 32]
  | 31 => [.sipush 0, .jsr 32]
  | 32 => [.ireturn]
  | _ => []
theorem k_X11_isSet : ∀ t, bok (mC 132) (mB 132) (mL 132) t (b_X11_isSet t) = true := by
  intro t
  unfold b_X11_isSet
  split
  all_goals first | decide +kernel | rfl
theorem e_X11_isSet {d : Nat} {av : List AV} {σ : Mem} {K : Option AV → Mem → Prop} (hl : (entL av).length ≤ 3) (h : wp d 132 b_X11_isSet K 400 (b_X11_isSet 0) (ent 3 av) [] σ) : Ev (d + 1) 132 av σ K := Ev.enter (by decide) (by decide +kernel) hl (wp_ok k_X11_isSet 400 _ 0 _ _ _ (k_X11_isSet 0) h)
theorem r_X11_isSet : mR 132 = (some .boolean) := by decide +kernel
def b_X11_orders (t : Nat) : List Instr := match t with
  | 0 => [.aload 0, .iload 1, .invokeinterface 2123 1, .ifCond .eq 19, .aload 0, .checkcast 1456320, .iload 1, .invokeinterface 918 1, .goto 21]
  | 19 => [.sipush (-3), .jsr 21]
  | 21 => [.ireturn]
  | _ => []
theorem k_X11_orders : ∀ t, bok (mC 133) (mB 133) (mL 133) t (b_X11_orders t) = true := by
  intro t
  unfold b_X11_orders
  split
  all_goals first | decide +kernel | rfl
theorem e_X11_orders {d : Nat} {av : List AV} {σ : Mem} {K : Option AV → Mem → Prop} (hl : (entL av).length ≤ 2) (h : wp d 133 b_X11_orders K 400 (b_X11_orders 0) (ent 2 av) [] σ) : Ev (d + 1) 133 av σ K := Ev.enter (by decide) (by decide +kernel) hl (wp_ok k_X11_orders 400 _ 0 _ _ _ (k_X11_orders 0) h)
theorem r_X11_orders : mR 133 = (some .int) := by decide +kernel
def b_X11_apart (t : Nat) : List Instr := match t with
  | 0 => [.aload 0, .checkcast 1446208, .iload 1, .invokeinterface 1482 1, .ifCond .eq 27, .aload 0, .checkcast 1446208, .iload 2, .invokeinterface 1482 1, .ifCond .eq 27, .iload 1, .iload 2, .if_icmp .ne 30, .jsr 27]
  | 27 => [.sipush (-2), .ireturn]
  | 30 => [.sipush 0, .istore 3, .jsr 32]
  | 32 => [.goto_w 32]
  | 54 => [.iinc 3 1, .goto 32]
  | 60 => [.sipush (-1), .ireturn]
  | _ => []
theorem k_X11_apart : ∀ t, bok (mC 134) (mB 134) (mL 134) t (b_X11_apart t) = true := by
  intro t
  unfold b_X11_apart
  split
  all_goals first | decide +kernel | rfl
theorem e_X11_apart {d : Nat} {av : List AV} {σ : Mem} {K : Option AV → Mem → Prop} (hl : (entL av).length ≤ 4) (h : wp d 134 b_X11_apart K 400 (b_X11_apart 0) (ent 4 av) [] σ) : Ev (d + 1) 134 av σ K := Ev.enter (by decide) (by decide +kernel) hl (wp_ok k_X11_apart 400 _ 0 _ _ _ (k_X11_apart 0) h)
theorem r_X11_apart : mR 134 = (some .int) := by decide +kernel
def h_X11_apart_32 : List Instr := [.iload 3, .sipush 8, .if_icmp .gt 60, .aload 0, .checkcast 1456320, .iload 1, .iload 2, .iload 3, .invokeinterface 966 3, .sipush (-1), .if_icmp .ne 54, .iload 3, .ireturn]
theorem l_X11_apart_32 {d : Nat} {ls st : List AV} {σ : Mem} {K : Option AV → Mem → Prop} (h : wp d 134 b_X11_apart K 400 h_X11_apart_32 ls st σ) : Rn (d + 1) 134 32 ls st σ K := wp_ok k_X11_apart 400 _ 32 _ _ _ (by decide +kernel) h
def b_X11_net (t : Nat) : List Instr := match t with
  | 0 => [.aload 0, .checkcast 1446208, .iload 1, .invokeinterface 1482 1, .ifCond .eq 22, .aload 0, .checkcast 1458208, .iload 1, .invokeinterface 209 1, .goto 25]
  | 22 => [.sipush (-99000002), .jsr 25]
  | 25 => [.ireturn]
  | _ => []
theorem k_X11_net : ∀ t, bok (mC 135) (mB 135) (mL 135) t (b_X11_net t) = true := by
  intro t
  unfold b_X11_net
  split
  all_goals first | decide +kernel | rfl
theorem e_X11_net {d : Nat} {av : List AV} {σ : Mem} {K : Option AV → Mem → Prop} (hl : (entL av).length ≤ 2) (h : wp d 135 b_X11_net K 400 (b_X11_net 0) (ent 2 av) [] σ) : Ev (d + 1) 135 av σ K := Ev.enter (by decide) (by decide +kernel) hl (wp_ok k_X11_net 400 _ 0 _ _ _ (k_X11_net 0) h)
theorem r_X11_net : mR 135 = (some .int) := by decide +kernel
def b_X11_coin (t : Nat) : List Instr := match t with
  | 0 => [.aload 0, .checkcast 1458208, .invokeinterface 225 0, .ireturn]
  | _ => []
theorem k_X11_coin : ∀ t, bok (mC 136) (mB 136) (mL 136) t (b_X11_coin t) = true := by
  intro t
  unfold b_X11_coin
  split
  all_goals first | decide +kernel | rfl
theorem e_X11_coin {d : Nat} {av : List AV} {σ : Mem} {K : Option AV → Mem → Prop} (hl : (entL av).length ≤ 1) (h : wp d 136 b_X11_coin K 400 (b_X11_coin 0) (ent 1 av) [] σ) : Ev (d + 1) 136 av σ K := Ev.enter (by decide) (by decide +kernel) hl (wp_ok k_X11_coin 400 _ 0 _ _ _ (k_X11_coin 0) h)
theorem r_X11_coin : mR 136 = (some .int) := by decide +kernel
def b_X11_settles (t : Nat) : List Instr := match t with
  | 0 => [.aload 0, .checkcast 1458208, .invokeinterface 241 0, .ireturn]
  | _ => []
theorem k_X11_settles : ∀ t, bok (mC 137) (mB 137) (mL 137) t (b_X11_settles t) = true := by
  intro t
  unfold b_X11_settles
  split
  all_goals first | decide +kernel | rfl
theorem e_X11_settles {d : Nat} {av : List AV} {σ : Mem} {K : Option AV → Mem → Prop} (hl : (entL av).length ≤ 1) (h : wp d 137 b_X11_settles K 400 (b_X11_settles 0) (ent 1 av) [] σ) : Ev (d + 1) 137 av σ K := Ev.enter (by decide) (by decide +kernel) hl (wp_ok k_X11_settles 400 _ 0 _ _ _ (k_X11_settles 0) h)
theorem r_X11_settles : mR 137 = (some .int) := by decide +kernel
def b_X11_rings (t : Nat) : List Instr := match t with
  | 0 => [.aload 0, .checkcast 1458208, .invokeinterface 273 0, .aload 0, .checkcast 1458208, .getfield 71, .ireturn]
  | _ => []
theorem k_X11_rings : ∀ t, bok (mC 138) (mB 138) (mL 138) t (b_X11_rings t) = true := by
  intro t
  unfold b_X11_rings
  split
  all_goals first | decide +kernel | rfl
theorem e_X11_rings {d : Nat} {av : List AV} {σ : Mem} {K : Option AV → Mem → Prop} (hl : (entL av).length ≤ 1) (h : wp d 138 b_X11_rings K 400 (b_X11_rings 0) (ent 1 av) [] σ) : Ev (d + 1) 138 av σ K := Ev.enter (by decide) (by decide +kernel) hl (wp_ok k_X11_rings 400 _ 0 _ _ _ (k_X11_rings 0) h)
theorem r_X11_rings : mR 138 = (some .int) := by decide +kernel
def b_X11_ring (t : Nat) : List Instr := match t with
  | 0 => [.iload 1, .sipush 10, .if_icmp .lt 16, .iload 1, .sipush 16, .if_icmp .ge 16, .sipush 1, .goto 17]
  | 16 => [.sipush 0, .jsr 17]
  | 17 => [.istore 2, .iload 1, .ifCond .eq 34, .iload 1, .sipush 1, .if_icmp .eq 34, .iload 2, .ifCond .ne 34, .sipush (-2), .ireturn]
  | 34 => [.aload 0, .checkcast 1458208, .invokeinterface 273 0, .aload 0, .checkcast 1458208, .getfield 71, .ifCond .ne 53, .sipush (-1), .ireturn]
  | 53 => [.iload 2, .ifCond .eq 88, .iload 1, .sipush 10, .isub, .aload 0, .checkcast 1458208, .getfield 69, .if_icmp .ge 86, .aload 0, .checkcast 1458208, .checkcast 135728, .iload 1, .sipush 10, .isub, .iaload, .goto 87]
  | 86 => [.sipush (-1), .jsr 87]
  | 87 => [.ireturn]
  | 88 => [.iload 1, .ifCond .ne 102, .aload 0, .checkcast 1458208, .getfield 70, .goto 109]
  | 102 => [.aload 0, .checkcast 1458208, .getfield 69, .jsr 109]
  | 109 => [.ireturn]
  | _ => []
theorem k_X11_ring : ∀ t, bok (mC 139) (mB 139) (mL 139) t (b_X11_ring t) = true := by
  intro t
  unfold b_X11_ring
  split
  all_goals first | decide +kernel | rfl
theorem e_X11_ring {d : Nat} {av : List AV} {σ : Mem} {K : Option AV → Mem → Prop} (hl : (entL av).length ≤ 3) (h : wp d 139 b_X11_ring K 400 (b_X11_ring 0) (ent 3 av) [] σ) : Ev (d + 1) 139 av σ K := Ev.enter (by decide) (by decide +kernel) hl (wp_ok k_X11_ring 400 _ 0 _ _ _ (k_X11_ring 0) h)
theorem r_X11_ring : mR 139 = (some .int) := by decide +kernel
def b_X11_heaviest (t : Nat) : List Instr := match t with
  | 0 => [.aload 0, .checkcast 1446208, .invokeinterface 1498 0, .sipush (-1), .istore 1, .sipush 0, .istore 2, .jsr 11]
  | 11 => [.goto_w 11]
  | 51 => [.iload 2, .istore 1, .jsr 53]
  | 53 => [.iinc 2 1, .goto 11]
  | 59 => [.iload 1, .ireturn]
  | _ => []
theorem k_X11_heaviest : ∀ t, bok (mC 140) (mB 140) (mL 140) t (b_X11_heaviest t) = true := by
  intro t
  unfold b_X11_heaviest
  split
  all_goals first | decide +kernel | rfl
theorem e_X11_heaviest {d : Nat} {av : List AV} {σ : Mem} {K : Option AV → Mem → Prop} (hl : (entL av).length ≤ 3) (h : wp d 140 b_X11_heaviest K 400 (b_X11_heaviest 0) (ent 3 av) [] σ) : Ev (d + 1) 140 av σ K := Ev.enter (by decide) (by decide +kernel) hl (wp_ok k_X11_heaviest 400 _ 0 _ _ _ (k_X11_heaviest 0) h)
theorem r_X11_heaviest : mR 140 = (some .int) := by decide +kernel
def h_X11_heaviest_11 : List Instr := [.iload 2, .aload 0, .checkcast 1446208, .instanceof 643, .getfield 198, .if_icmp .ge 59, .iload 1, .sipush (-1), .if_icmp .eq 51, .aload 0, .checkcast 1446208, .checkcast 1316080, .iload 2, .iaload, .aload 0, .checkcast 1446208, .checkcast 1316080, .iload 1, .iaload, .if_icmp .le 53, .jsr 51]
theorem l_X11_heaviest_11 {d : Nat} {ls st : List AV} {σ : Mem} {K : Option AV → Mem → Prop} (h : wp d 140 b_X11_heaviest K 400 h_X11_heaviest_11 ls st σ) : Rn (d + 1) 140 11 ls st σ K := wp_ok k_X11_heaviest 400 _ 11 _ _ _ (by decide +kernel) h
def b_X11_forgive (t : Nat) : List Instr := match t with
  | 0 => [.aload 0, .checkcast 1460512, .invokeinterface 1129 0, .ireturn]
  | _ => []
theorem k_X11_forgive : ∀ t, bok (mC 141) (mB 141) (mL 141) t (b_X11_forgive t) = true := by
  intro t
  unfold b_X11_forgive
  split
  all_goals first | decide +kernel | rfl
theorem e_X11_forgive {d : Nat} {av : List AV} {σ : Mem} {K : Option AV → Mem → Prop} (hl : (entL av).length ≤ 1) (h : wp d 141 b_X11_forgive K 400 (b_X11_forgive 0) (ent 1 av) [] σ) : Ev (d + 1) 141 av σ K := Ev.enter (by decide) (by decide +kernel) hl (wp_ok k_X11_forgive 400 _ 0 _ _ _ (k_X11_forgive 0) h)
theorem r_X11_forgive : mR 141 = (some .int) := by decide +kernel
def b_X11_mends (t : Nat) : List Instr := match t with
  | 0 => [.aload 0, .checkcast 1446208, .iload 1, .invokeinterface 1482 1, .ifCond .ne 14, .sipush (-2), .ireturn]
  | 14 => [.aload 0, .iload 1, .invokeinterface 2299 1, .ifCond .eq 32, .aload 0, .sipush 1, .iload 1, .ishl, .invokeinterface 2315 1, .goto 33]
  | 32 => [.sipush (-1), .jsr 33]
  | 33 => [.ireturn]
  | _ => []
theorem k_X11_mends : ∀ t, bok (mC 142) (mB 142) (mL 142) t (b_X11_mends t) = true := by
  intro t
  unfold b_X11_mends
  split
  all_goals first | decide +kernel | rfl
theorem e_X11_mends {d : Nat} {av : List AV} {σ : Mem} {K : Option AV → Mem → Prop} (hl : (entL av).length ≤ 2) (h : wp d 142 b_X11_mends K 400 (b_X11_mends 0) (ent 2 av) [] σ) : Ev (d + 1) 142 av σ K := Ev.enter (by decide) (by decide +kernel) hl (wp_ok k_X11_mends 400 _ 0 _ _ _ (k_X11_mends 0) h)
theorem r_X11_mends : mR 142 = (some .int) := by decide +kernel
def b_X11_canBeMendedFor (t : Nat) : List Instr := match t with
  | 0 => [.sipush 0, .istore 2, .jsr 2]
  | 2 => [.goto_w 2]
  | 31 => [.iinc 2 1, .goto 2]
  | 37 => [.sipush 1, .ireturn]
  | _ => []
theorem k_X11_canBeMendedFor : ∀ t, bok (mC 143) (mB 143) (mL 143) t (b_X11_canBeMendedFor t) = true := by
  intro t
  unfold b_X11_canBeMendedFor
  split
  all_goals first | decide +kernel | rfl
theorem e_X11_canBeMendedFor {d : Nat} {av : List AV} {σ : Mem} {K : Option AV → Mem → Prop} (hl : (entL av).length ≤ 3) (h : wp d 143 b_X11_canBeMendedFor K 400 (b_X11_canBeMendedFor 0) (ent 3 av) [] σ) : Ev (d + 1) 143 av σ K := Ev.enter (by decide) (by decide +kernel) hl (wp_ok k_X11_canBeMendedFor 400 _ 0 _ _ _ (k_X11_canBeMendedFor 0) h)
theorem r_X11_canBeMendedFor : mR 143 = (some .boolean) := by decide +kernel
def h_X11_canBeMendedFor_2 : List Instr := [.iload 2, .aload 0, .checkcast 1446208, .instanceof 643, .getfield 197, .if_icmp .ge 37, .aload 0, .checkcast 1446208, .iload 1, .iload 2, .invokeinterface 1658 2, .sipush (-1), .if_icmp .ne 31, .sipush 0, .ireturn]
theorem l_X11_canBeMendedFor_2 {d : Nat} {ls st : List AV} {σ : Mem} {K : Option AV → Mem → Prop} (h : wp d 143 b_X11_canBeMendedFor K 400 h_X11_canBeMendedFor_2 ls st σ) : Rn (d + 1) 143 2 ls st σ K := wp_ok k_X11_canBeMendedFor 400 _ 2 _ _ _ (by decide +kernel) h
def b_X11_mendsOver (t : Nat) : List Instr := match t with
  | 0 => [.sipush 0, .istore 2, .sipush 0, .istore 3, .jsr 4]
  | 4 => [.goto_w 4]
  | 24 => [.goto_w 24]
  | 65 => [.iinc 5 1, .goto 24]
  | 71 => [.iload 2, .iload 4, .iadd, .istore 2, .iinc 3 1, .goto 4]
  | 82 => [.iload 2, .ireturn]
  | _ => []
theorem k_X11_mendsOver : ∀ t, bok (mC 144) (mB 144) (mL 144) t (b_X11_mendsOver t) = true := by
  intro t
  unfold b_X11_mendsOver
  split
  all_goals first | decide +kernel | rfl
theorem e_X11_mendsOver {d : Nat} {av : List AV} {σ : Mem} {K : Option AV → Mem → Prop} (hl : (entL av).length ≤ 6) (h : wp d 144 b_X11_mendsOver K 400 (b_X11_mendsOver 0) (ent 6 av) [] σ) : Ev (d + 1) 144 av σ K := Ev.enter (by decide) (by decide +kernel) hl (wp_ok k_X11_mendsOver 400 _ 0 _ _ _ (k_X11_mendsOver 0) h)
theorem r_X11_mendsOver : mR 144 = (some .int) := by decide +kernel
def h_X11_mendsOver_4 : List Instr := [.iload 3, .aload 0, .checkcast 1446208, .instanceof 643, .getfield 197, .if_icmp .ge 82, .sipush 0, .istore 4, .sipush 0, .istore 5, .jsr 24]
theorem l_X11_mendsOver_4 {d : Nat} {ls st : List AV} {σ : Mem} {K : Option AV → Mem → Prop} (h : wp d 144 b_X11_mendsOver K 400 h_X11_mendsOver_4 ls st σ) : Rn (d + 1) 144 4 ls st σ K := wp_ok k_X11_mendsOver 400 _ 4 _ _ _ (by decide +kernel) h
def h_X11_mendsOver_24 : List Instr := [.iload 5, .aload 0, .checkcast 1446208, .instanceof 643, .getfield 198, .if_icmp .ge 71, .iload 1, .iload 5, .ishr, .sipush 1, .iand, .ifCond .eq 65, .iload 4, .aload 0, .checkcast 1446208, .iload 5, .iload 3, .invokeinterface 1658 2, .dcmp .g, .istore 4, .jsr 65]
theorem l_X11_mendsOver_24 {d : Nat} {ls st : List AV} {σ : Mem} {K : Option AV → Mem → Prop} (h : wp d 144 b_X11_mendsOver K 400 h_X11_mendsOver_24 ls st σ) : Rn (d + 1) 144 24 ls st σ K := wp_ok k_X11_mendsOver 400 _ 24 _ _ _ (by decide +kernel) h
def b_X11_mendsAt (t : Nat) : List Instr := match t with
  | 0 => [.aload 0, .checkcast 1446208, .iload 1, .invokeinterface 1482 1, .ifCond .eq 22, .aload 0, .checkcast 1446208, .iload 2, .invokeinterface 1450 1, .ifCond .ne 25, .jsr 22]
  | 22 => [.sipush (-2), .ireturn]
  | 25 => [.aload 0, .iload 1, .invokeinterface 2299 1, .ifCond .eq 45, .aload 0, .checkcast 1446208, .iload 1, .iload 2, .invokeinterface 1658 2, .goto 46]
  | 45 => [.sipush (-1), .jsr 46]
  | 46 => [.ireturn]
  | _ => []
theorem k_X11_mendsAt : ∀ t, bok (mC 145) (mB 145) (mL 145) t (b_X11_mendsAt t) = true := by
  intro t
  unfold b_X11_mendsAt
  split
  all_goals first | decide +kernel | rfl
theorem e_X11_mendsAt {d : Nat} {av : List AV} {σ : Mem} {K : Option AV → Mem → Prop} (hl : (entL av).length ≤ 3) (h : wp d 145 b_X11_mendsAt K 400 (b_X11_mendsAt 0) (ent 3 av) [] σ) : Ev (d + 1) 145 av σ K := Ev.enter (by decide) (by decide +kernel) hl (wp_ok k_X11_mendsAt 400 _ 0 _ _ _ (k_X11_mendsAt 0) h)
theorem r_X11_mendsAt : mR 145 = (some .int) := by decide +kernel
def b_X11_mendsAll (t : Nat) : List Instr := match t with
  | 0 => [.sipush 0, .istore 1, .jsr 2]
  | 2 => [.goto_w 2]
  | 26 => [.iinc 1 1, .goto 2]
  | 32 => [.aload 0, .sipush 1, .aload 0, .checkcast 1446208, .instanceof 643, .getfield 198, .ishl, .sipush 1, .isub, .invokeinterface 2315 1, .ireturn]
  | _ => []
theorem k_X11_mendsAll : ∀ t, bok (mC 146) (mB 146) (mL 146) t (b_X11_mendsAll t) = true := by
  intro t
  unfold b_X11_mendsAll
  split
  all_goals first | decide +kernel | rfl
theorem e_X11_mendsAll {d : Nat} {av : List AV} {σ : Mem} {K : Option AV → Mem → Prop} (hl : (entL av).length ≤ 2) (h : wp d 146 b_X11_mendsAll K 400 (b_X11_mendsAll 0) (ent 2 av) [] σ) : Ev (d + 1) 146 av σ K := Ev.enter (by decide) (by decide +kernel) hl (wp_ok k_X11_mendsAll 400 _ 0 _ _ _ (k_X11_mendsAll 0) h)
theorem r_X11_mendsAll : mR 146 = (some .int) := by decide +kernel
def h_X11_mendsAll_2 : List Instr := [.iload 1, .aload 0, .checkcast 1446208, .instanceof 643, .getfield 198, .if_icmp .ge 32, .aload 0, .iload 1, .invokeinterface 2299 1, .ifCond .ne 26, .sipush (-1), .ireturn]
theorem l_X11_mendsAll_2 {d : Nat} {ls st : List AV} {σ : Mem} {K : Option AV → Mem → Prop} (h : wp d 146 b_X11_mendsAll K 400 h_X11_mendsAll_2 ls st σ) : Rn (d + 1) 146 2 ls st σ K := wp_ok k_X11_mendsAll 400 _ 2 _ _ _ (by decide +kernel) h
def b_X11_torn (t : Nat) : List Instr := match t with
  | 0 => [.aload 0, .iload 1, .invokeinterface 2379 1, .istore 2, .iload 2, .ifCond .ne 26, .aload 0, .checkcast 1460512, .aload 0, .checkcast 1463600, .iload 1, .aaload, .invokeinterface 1145 1, .goto 27]
  | 26 => [.iload 2, .jsr 27]
  | 27 => [.ireturn]
  | _ => []
theorem k_X11_torn : ∀ t, bok (mC 147) (mB 147) (mL 147) t (b_X11_torn t) = true := by
  intro t
  unfold b_X11_torn
  split
  all_goals first | decide +kernel | rfl
theorem e_X11_torn {d : Nat} {av : List AV} {σ : Mem} {K : Option AV → Mem → Prop} (hl : (entL av).length ≤ 3) (h : wp d 147 b_X11_torn K 400 (b_X11_torn 0) (ent 3 av) [] σ) : Ev (d + 1) 147 av σ K := Ev.enter (by decide) (by decide +kernel) hl (wp_ok k_X11_torn 400 _ 0 _ _ _ (k_X11_torn 0) h)
theorem r_X11_torn : mR 147 = (some .int) := by decide +kernel
def b_X11_seenCode (t : Nat) : List Instr := match t with
  | 0 => [.aload 0, .iload 1, .invokeinterface 1915 1, .istore 2, .iload 2, .ifCond .eq 12, .iload 2, .ireturn]
  | 12 => [.aload 0, .checkcast 1463600, .iload 1, .aaload, .getfield 515, .aload 0, .checkcast 1446208, .instanceof 643, .getfield 198, .if_icmp .ne 38, .sipush 0, .goto 40]
  | 38 => [.sipush (-4), .jsr 40]
  | 40 => [.ireturn]
  | _ => []
theorem k_X11_seenCode : ∀ t, bok (mC 148) (mB 148) (mL 148) t (b_X11_seenCode t) = true := by
  intro t
  unfold b_X11_seenCode
  split
  all_goals first | decide +kernel | rfl
theorem e_X11_seenCode {d : Nat} {av : List AV} {σ : Mem} {K : Option AV → Mem → Prop} (hl : (entL av).length ≤ 3) (h : wp d 148 b_X11_seenCode K 400 (b_X11_seenCode 0) (ent 3 av) [] σ) : Ev (d + 1) 148 av σ K := Ev.enter (by decide) (by decide +kernel) hl (wp_ok k_X11_seenCode 400 _ 0 _ _ _ (k_X11_seenCode 0) h)
theorem r_X11_seenCode : mR 148 = (some .int) := by decide +kernel
def b_X11_tornAt (t : Nat) : List Instr := match t with
  | 0 => [.aload 0, .iload 1, .invokeinterface 2379 1, .istore 3, .iload 3, .ifCond .eq 12, .iload 3, .ireturn]
  | 12 => [.iload 2, .ifCond .ge 19, .sipush (-3), .ireturn]
  | 19 => [.iload 2, .aload 0, .checkcast 1460512, .aload 0, .checkcast 1463600, .iload 1, .aaload, .invokeinterface 1145 1, .if_icmp .ge 48, .aload 0, .checkcast 1460512, .checkcast 1184944, .iload 2, .iaload, .goto 49]
  | 48 => [.sipush (-1), .jsr 49]
  | 49 => [.ireturn]
  | _ => []
theorem k_X11_tornAt : ∀ t, bok (mC 149) (mB 149) (mL 149) t (b_X11_tornAt t) = true := by
  intro t
  unfold b_X11_tornAt
  split
  all_goals first | decide +kernel | rfl
theorem e_X11_tornAt {d : Nat} {av : List AV} {σ : Mem} {K : Option AV → Mem → Prop} (hl : (entL av).length ≤ 4) (h : wp d 149 b_X11_tornAt K 400 (b_X11_tornAt 0) (ent 4 av) [] σ) : Ev (d + 1) 149 av σ K := Ev.enter (by decide) (by decide +kernel) hl (wp_ok k_X11_tornAt 400 _ 0 _ _ _ (k_X11_tornAt 0) h)
theorem r_X11_tornAt : mR 149 = (some .int) := by decide +kernel
def b_X11_weighed (t : Nat) : List Instr := match t with
  | 0 => [.aload 0, .iload 1, .invokeinterface 2379 1, .istore 2, .iload 2, .ifCond .eq 12, .iload 2, .ireturn]
  | 12 => [.aload 0, .checkcast 1460512, .aload 0, .checkcast 1463600, .iload 1, .aaload, .invokeinterface 1145 1, .ifCond .ne 32, .sipush (-1), .goto 39]
  | 32 => [.aload 0, .checkcast 1460512, .invokeinterface 1177 0, .jsr 39]
  | 39 => [.ireturn]
  | _ => []
theorem k_X11_weighed : ∀ t, bok (mC 150) (mB 150) (mL 150) t (b_X11_weighed t) = true := by
  intro t
  unfold b_X11_weighed
  split
  all_goals first | decide +kernel | rfl
theorem e_X11_weighed {d : Nat} {av : List AV} {σ : Mem} {K : Option AV → Mem → Prop} (hl : (entL av).length ≤ 3) (h : wp d 150 b_X11_weighed K 400 (b_X11_weighed 0) (ent 3 av) [] σ) : Ev (d + 1) 150 av σ K := Ev.enter (by decide) (by decide +kernel) hl (wp_ok k_X11_weighed 400 _ 0 _ _ _ (k_X11_weighed 0) h)
theorem r_X11_weighed : mR 150 = (some .int) := by decide +kernel
def b_X11_chance (t : Nat) : List Instr := match t with
  | 0 => [.aload 0, .checkcast 1446208, .iload 1, .invokeinterface 1482 1, .ifCond .eq 20, .iload 3, .ifCond .lt 20, .iload 3, .sipush 1, .if_icmp .le 24, .jsr 20]
  | 20 => [.jsr_w (-2), .lreturn]
  | 24 => [.iload 2, .ifCond .lt 34, .iload 2, .sipush 15, .if_icmp .le 38, .jsr 34]
  | 34 => [.jsr_w (-3), .lreturn]
  | 38 => [.aload 0, .checkcast 1460512, .iload 1, .invokeinterface 1209 1, .sipush 1, .istore 4, .jsr 49]
  | 49 => [.goto_w 49]
  | 70 => [.aload 0, .checkcast 1460512, .getstatic 582, .aload 0, .checkcast 1460512, .getstatic 583, .lsub, .lstore 4, .lload 4, .aload 0, .checkcast 1460512, .getstatic 582, .multianewarray 78 2, .lstore 6, .iload 3, .ifCond .ne 110, .lload 4, .goto 117]
  | 110 => [.aload 0, .checkcast 1460512, .getstatic 582, .jsr 117]
  | 117 => [.jsr_w 1, .lload 6, .fcmp .g, .ldiv, .lreturn]
  | _ => []
theorem k_X11_chance : ∀ t, bok (mC 151) (mB 151) (mL 151) t (b_X11_chance t) = true := by
  intro t
  unfold b_X11_chance
  split
  all_goals first | decide +kernel | rfl
theorem e_X11_chance {d : Nat} {av : List AV} {σ : Mem} {K : Option AV → Mem → Prop} (hl : (entL av).length ≤ 8) (h : wp d 151 b_X11_chance K 400 (b_X11_chance 0) (ent 8 av) [] σ) : Ev (d + 1) 151 av σ K := Ev.enter (by decide) (by decide +kernel) hl (wp_ok k_X11_chance 400 _ 0 _ _ _ (k_X11_chance 0) h)
theorem r_X11_chance : mR 151 = (some .long) := by decide +kernel
def h_X11_chance_49 : List Instr := [.iload 4, .iload 2, .if_icmp .gt 70, .aload 0, .checkcast 1460512, .iload 4, .invokeinterface 1225 1, .iinc 4 1, .goto 49]
theorem l_X11_chance_49 {d : Nat} {ls st : List AV} {σ : Mem} {K : Option AV → Mem → Prop} (h : wp d 151 b_X11_chance K 400 h_X11_chance_49 ls st σ) : Rn (d + 1) 151 49 ls st σ K := wp_ok k_X11_chance 400 _ 49 _ _ _ (by decide +kernel) h
def b_X11_likely (t : Nat) : List Instr := match t with
  | 0 => [.aload 0, .checkcast 1446208, .iload 1, .invokeinterface 1482 1, .ifCond .ne 14, .sipush (-2), .ireturn]
  | 14 => [.iload 2, .ifCond .lt 24, .iload 2, .sipush 100, .if_icmp .le 27, .jsr 24]
  | 24 => [.sipush (-3), .ireturn]
  | 27 => [.aload 0, .checkcast 1460512, .iload 1, .invokeinterface 1209 1, .sipush 0, .istore 3, .jsr 37]
  | 37 => [.goto_w 37]
  | 55 => [.aload 0, .checkcast 1460512, .getstatic 582, .aload 0, .checkcast 1460512, .getstatic 583, .lsub, .jsr_w 100, .lmul, .aload 0, .checkcast 1460512, .getstatic 582, .iload 2, .i2l, .lmul, .lcmp, .ifCond .lt 90, .iload 3, .ireturn]
  | 90 => [.iinc 3 1, .goto 37]
  | 96 => [.sipush (-1), .ireturn]
  | _ => []
theorem k_X11_likely : ∀ t, bok (mC 152) (mB 152) (mL 152) t (b_X11_likely t) = true := by
  intro t
  unfold b_X11_likely
  split
  all_goals first | decide +kernel | rfl
theorem e_X11_likely {d : Nat} {av : List AV} {σ : Mem} {K : Option AV → Mem → Prop} (hl : (entL av).length ≤ 4) (h : wp d 152 b_X11_likely K 400 (b_X11_likely 0) (ent 4 av) [] σ) : Ev (d + 1) 152 av σ K := Ev.enter (by decide) (by decide +kernel) hl (wp_ok k_X11_likely 400 _ 0 _ _ _ (k_X11_likely 0) h)
theorem r_X11_likely : mR 152 = (some .int) := by decide +kernel
def h_X11_likely_37 : List Instr := [.iload 3, .sipush 15, .if_icmp .gt 96, .iload 3, .ifCond .le 55, .aload 0, .checkcast 1460512, .iload 3, .invokeinterface 1225 1, .jsr 55]
theorem l_X11_likely_37 {d : Nat} {ls st : List AV} {σ : Mem} {K : Option AV → Mem → Prop} (h : wp d 152 b_X11_likely K 400 h_X11_likely_37 ls st σ) : Rn (d + 1) 152 37 ls st σ K := wp_ok k_X11_likely 400 _ 37 _ _ _ (by decide +kernel) h
def b_X11_numbers (t : Nat) : List Instr := match t with
  | 0 => [.aload 0, .iload 1, .invokeinterface 1931 1, .ifCond .eq 17, .iload 2, .ifCond .lt 17, .iload 2, .sipush 3, .if_icmp .le 20, .jsr 17]
  | 17 => [.sipush (-2), .ireturn]
  | 20 => [.iload 3, .ifCond .lt 30, .iload 3, .sipush 40, .if_icmp .le 33, .jsr 30]
  | 30 => [.sipush (-3), .ireturn]
  | 33 => [.aload 0, .checkcast 1463600, .iload 1, .aaload, .iload 2, .iload 3, .invokeinterface 1048 2, .sipush 0, .ireturn]
  | _ => []
theorem k_X11_numbers : ∀ t, bok (mC 153) (mB 153) (mL 153) t (b_X11_numbers t) = true := by
  intro t
  unfold b_X11_numbers
  split
  all_goals first | decide +kernel | rfl
theorem e_X11_numbers {d : Nat} {av : List AV} {σ : Mem} {K : Option AV → Mem → Prop} (hl : (entL av).length ≤ 4) (h : wp d 153 b_X11_numbers K 400 (b_X11_numbers 0) (ent 4 av) [] σ) : Ev (d + 1) 153 av σ K := Ev.enter (by decide) (by decide +kernel) hl (wp_ok k_X11_numbers 400 _ 0 _ _ _ (k_X11_numbers 0) h)
theorem r_X11_numbers : mR 153 = (some .int) := by decide +kernel
def b_X11_write (t : Nat) : List Instr := match t with
  | 0 => [.aload 0, .iload 1, .invokeinterface 1915 1, .istore 5, .iload 5, .ifCond .eq 16, .iload 5, .i2l, .lreturn]
  | 16 => [.iload 2, .ifCond .lt 33, .iload 2, .aload 0, .checkcast 1463600, .iload 1, .aaload, .getfield 515, .if_icmp .lt 37, .jsr 33]
  | 33 => [.jsr_w (-7), .lreturn]
  | 37 => [.aload 0, .checkcast 1463600, .iload 1, .aaload, .iload 2, .lload 3, .invokeinterface 1064 2, .lreturn]
  | _ => []
theorem k_X11_write : ∀ t, bok (mC 154) (mB 154) (mL 154) t (b_X11_write t) = true := by
  intro t
  unfold b_X11_write
  split
  all_goals first | decide +kernel | rfl
theorem e_X11_write {d : Nat} {av : List AV} {σ : Mem} {K : Option AV → Mem → Prop} (hl : (entL av).length ≤ 6) (h : wp d 154 b_X11_write K 400 (b_X11_write 0) (ent 6 av) [] σ) : Ev (d + 1) 154 av σ K := Ev.enter (by decide) (by decide +kernel) hl (wp_ok k_X11_write 400 _ 0 _ _ _ (k_X11_write 0) h)
theorem r_X11_write : mR 154 = (some .long) := by decide +kernel
def b_X11_lists (t : Nat) : List Instr := match t with
  | 0 => [.aload 0, .iload 1, .invokeinterface 1915 1, .istore 2, .iload 2, .ifCond .eq 12, .iload 2, .ireturn]
  | 12 => [.aload 0, .checkcast 1446208, .invokeinterface 1498 0, .aload 0, .checkcast 1446208, .instanceof 643, .getfield 198, .aload 0, .checkcast 1463600, .iload 1, .aaload, .getfield 515, .dcmp .l, .istore 3, .sipush 0, .istore 4, .jsr 45]
  | 45 => [.goto_w 45]
  | 80 => [.iload 3, .ireturn]
  | _ => []
theorem k_X11_lists : ∀ t, bok (mC 155) (mB 155) (mL 155) t (b_X11_lists t) = true := by
  intro t
  unfold b_X11_lists
  split
  all_goals first | decide +kernel | rfl
theorem e_X11_lists {d : Nat} {av : List AV} {σ : Mem} {K : Option AV → Mem → Prop} (hl : (entL av).length ≤ 5) (h : wp d 155 b_X11_lists K 400 (b_X11_lists 0) (ent 5 av) [] σ) : Ev (d + 1) 155 av σ K := Ev.enter (by decide) (by decide +kernel) hl (wp_ok k_X11_lists 400 _ 0 _ _ _ (k_X11_lists 0) h)
theorem r_X11_lists : mR 155 = (some .int) := by decide +kernel
def h_X11_lists_45 : List Instr := [.iload 4, .iload 3, .if_icmp .ge 80, .aload 0, .checkcast 1463600, .iload 1, .aaload, .iload 4, .aload 0, .checkcast 1446208, .checkcast 1316080, .iload 4, .iaload, .i2l, .invokeinterface 1064 2, .pop2, .iinc 4 1, .goto 45]
theorem l_X11_lists_45 {d : Nat} {ls st : List AV} {σ : Mem} {K : Option AV → Mem → Prop} (h : wp d 155 b_X11_lists K 400 h_X11_lists_45 ls st σ) : Rn (d + 1) 155 45 ls st σ K := wp_ok k_X11_lists 400 _ 45 _ _ _ (by decide +kernel) h
def b_X11_image (t : Nat) : List Instr := match t with
  | 0 => [.iload 1, .ifCond .lt 9, .iload 1, .sipush 2, .if_icmp .lt 12, .jsr 9]
  | 9 => [.sipush (-2), .ireturn]
  | 12 => [.aload 0, .checkcast 1465680, .iload 1, .aaload, .aload 0, .checkcast 1446208, .invokeinterface 1562 1, .aload 0, .checkcast 1467760, .iload 1, .sipush 1, .bastore, .sipush 0, .ireturn]
  | _ => []
theorem k_X11_image : ∀ t, bok (mC 156) (mB 156) (mL 156) t (b_X11_image t) = true := by
  intro t
  unfold b_X11_image
  split
  all_goals first | decide +kernel | rfl
theorem e_X11_image {d : Nat} {av : List AV} {σ : Mem} {K : Option AV → Mem → Prop} (hl : (entL av).length ≤ 2) (h : wp d 156 b_X11_image K 400 (b_X11_image 0) (ent 2 av) [] σ) : Ev (d + 1) 156 av σ K := Ev.enter (by decide) (by decide +kernel) hl (wp_ok k_X11_image 400 _ 0 _ _ _ (k_X11_image 0) h)
theorem r_X11_image : mR 156 = (some .int) := by decide +kernel
def b_X11_restore (t : Nat) : List Instr := match t with
  | 0 => [.iload 1, .ifCond .lt 9, .iload 1, .sipush 2, .if_icmp .lt 12, .jsr 9]
  | 9 => [.sipush (-2), .ireturn]
  | 12 => [.aload 0, .checkcast 1467760, .iload 1, .baload, .ifCond .ne 24, .sipush (-5), .ireturn]
  | 24 => [.aload 0, .checkcast 1446208, .aload 0, .checkcast 1465680, .iload 1, .aaload, .invokeinterface 1562 1, .aload 0, .checkcast 1454144, .invokeinterface 322 0, .sipush 0, .ireturn]
  | _ => []
theorem k_X11_restore : ∀ t, bok (mC 157) (mB 157) (mL 157) t (b_X11_restore t) = true := by
  intro t
  unfold b_X11_restore
  split
  all_goals first | decide +kernel | rfl
theorem e_X11_restore {d : Nat} {av : List AV} {σ : Mem} {K : Option AV → Mem → Prop} (hl : (entL av).length ≤ 2) (h : wp d 157 b_X11_restore K 400 (b_X11_restore 0) (ent 2 av) [] σ) : Ev (d + 1) 157 av σ K := Ev.enter (by decide) (by decide +kernel) hl (wp_ok k_X11_restore 400 _ 0 _ _ _ (k_X11_restore 0) h)
theorem r_X11_restore : mR 157 = (some .int) := by decide +kernel
def b_X11_count (t : Nat) : List Instr := match t with
  | 0 => [.iload 1, .tableswitch 187 0 12 #[68, 79, 90, 98, 106, 114, 122, 130, 141, 152, 163, 171, 176]]
  | 68 => [.aload 0, .checkcast 1446208, .instanceof 643, .getfield 197, .ireturn]
  | 79 => [.aload 0, .checkcast 1446208, .instanceof 643, .getfield 198, .ireturn]
  | 90 => [.aload 0, .checkcast 1446208, .invokeinterface 1578 0, .ireturn]
  | 98 => [.aload 0, .checkcast 1446208, .invokeinterface 1610 0, .ireturn]
  | 106 => [.aload 0, .checkcast 1446208, .invokeinterface 1514 0, .ireturn]
  | 114 => [.aload 0, .checkcast 1446208, .invokeinterface 1674 0, .ireturn]
  | 122 => [.aload 0, .checkcast 1446208, .invokeinterface 1690 0, .ireturn]
  | 130 => [.aload 0, .checkcast 1446208, .checkcast 1310960, .getfield 451, .ireturn]
  | 141 => [.aload 0, .checkcast 1446208, .checkcast 1310960, .getfield 452, .ireturn]
  | 152 => [.aload 0, .checkcast 1446208, .checkcast 1310960, .getfield 453, .ireturn]
  | 163 => [.aload 0, .checkcast 1454144, .getfield 130, .ireturn]
  | 171 => [.aload 0, .getfield 717, .ireturn]
  | 176 => [.aload 0, .checkcast 1446208, .instanceof 643, .getfield 201, .ireturn]
  | 187 => [.sipush (-1), .ireturn]
  | _ => []
theorem k_X11_count : ∀ t, bok (mC 158) (mB 158) (mL 158) t (b_X11_count t) = true := by
  intro t
  unfold b_X11_count
  split
  all_goals first | decide +kernel | rfl
theorem e_X11_count {d : Nat} {av : List AV} {σ : Mem} {K : Option AV → Mem → Prop} (hl : (entL av).length ≤ 2) (h : wp d 158 b_X11_count K 400 (b_X11_count 0) (ent 2 av) [] σ) : Ev (d + 1) 158 av σ K := Ev.enter (by decide) (by decide +kernel) hl (wp_ok k_X11_count 400 _ 0 _ _ _ (k_X11_count 0) h)
theorem r_X11_count : mR 158 = (some .int) := by decide +kernel
def b_X12_plain (t : Nat) : List Instr := match t with
  | 0 => [.sipush 0, .istore 1, .jsr 2]
  | 2 => [.goto_w 2]
  | 19 => [.aload 0, .sipush 1, .sipush 1, .iastore, .return_]
  | _ => []
theorem k_X12_plain : ∀ t, bok (mC 159) (mB 159) (mL 159) t (b_X12_plain t) = true := by
  intro t
  unfold b_X12_plain
  split
  all_goals first | decide +kernel | rfl
theorem e_X12_plain {d : Nat} {av : List AV} {σ : Mem} {K : Option AV → Mem → Prop} (hl : (entL av).length ≤ 2) (h : wp d 159 b_X12_plain K 400 (b_X12_plain 0) (ent 2 av) [] σ) : Ev (d + 1) 159 av σ K := Ev.enter (by decide) (by decide +kernel) hl (wp_ok k_X12_plain 400 _ 0 _ _ _ (k_X12_plain 0) h)
theorem r_X12_plain : mR 159 = none := by decide +kernel
def h_X12_plain_2 : List Instr := [.iload 1, .sipush 1514, .if_icmp .ge 19, .aload 0, .iload 1, .sipush 0, .iastore, .iinc 1 1, .goto 2]
theorem l_X12_plain_2 {d : Nat} {ls st : List AV} {σ : Mem} {K : Option AV → Mem → Prop} (h : wp d 159 b_X12_plain K 400 h_X12_plain_2 ls st σ) : Rn (d + 1) 159 2 ls st σ K := wp_ok k_X12_plain 400 _ 2 _ _ _ (by decide +kernel) h
def b_X12_feed (t : Nat) : List Instr := match t with
  | 0 => [.aload 0, .sipush 0, .putfield 768, .aload 0, .getfield 773, .sipush 20, .iadd, .sipush 900, .if_icmp .le 21, .sipush (-5), .ireturn]
  | 21 => [.sipush 0, .istore 6, .jsr 24]
  | 24 => [.goto_w 24]
  | 41 => [.iload 6, .sipush 8, .if_icmp .ge 52, .iload 2, .goto 77]
  | 52 => [.iload 6, .sipush 12, .if_icmp .ge 63, .iload 3, .goto 77]
  | 63 => [.iload 6, .sipush 16, .if_icmp .ge 75, .iload 4, .goto 77]
  | 75 => [.iload 5, .jsr 77]
  | 77 => [.istore 7, .aload 0, .checkcast 1580496, .aload 0, .getfield 773, .iload 7, .sipush 24, .sipush 8, .iload 6, .sipush 4, .irem, .imul, .isub, .ishr, .sipush 255, .iand, .iastore, .aload 0, .dup, .getfield 773, .sipush 1, .iadd, .putfield 773, .iinc 6 1, .goto 24]
  | 121 => [.aload 0, .getfield 773, .ireturn]
  | _ => []
theorem k_X12_feed : ∀ t, bok (mC 160) (mB 160) (mL 160) t (b_X12_feed t) = true := by
  intro t
  unfold b_X12_feed
  split
  all_goals first | decide +kernel | rfl
theorem e_X12_feed {d : Nat} {av : List AV} {σ : Mem} {K : Option AV → Mem → Prop} (hl : (entL av).length ≤ 8) (h : wp d 160 b_X12_feed K 400 (b_X12_feed 0) (ent 8 av) [] σ) : Ev (d + 1) 160 av σ K := Ev.enter (by decide) (by decide +kernel) hl (wp_ok k_X12_feed 400 _ 0 _ _ _ (k_X12_feed 0) h)
theorem r_X12_feed : mR 160 = (some .int) := by decide +kernel
def h_X12_feed_24 : List Instr := [.iload 6, .sipush 20, .if_icmp .ge 121, .iload 6, .sipush 4, .if_icmp .ge 41, .iload 1, .goto 77]
theorem l_X12_feed_24 {d : Nat} {ls st : List AV} {σ : Mem} {K : Option AV → Mem → Prop} (h : wp d 160 b_X12_feed K 400 h_X12_feed_24 ls st σ) : Rn (d + 1) 160 24 ls st σ K := wp_ok k_X12_feed 400 _ 24 _ _ _ (by decide +kernel) h
def b_X12_bridge (t : Nat) : List Instr := match t with
  | 0 => [.aload 0, .sipush 0, .putfield 768, .iload 1, .i2l, .jsr_w 0, .aload 0, .getfield 773, .i2l, .multianewarray 162 3, .ifCond .ne 22, .sipush (-3), .ireturn]
  | 22 => [.aload 0, .iload 1, .putfield 776, .aload 0, .sipush 0, .putfield 773, .aload 0, .sipush 0, .putfield 775, .aload 0, .sipush 0, .putfield 779, .aload 0, .checkcast 1582576, .multianewarray 159 1, .aload 0, .invokeinterface 2620 0, .aload 0, .sipush 0, .invokeinterface 2700 1, .ifCond .ne 66, .aload 0, .sipush 2, .invokeinterface 2732 1, .jsr 66]
  | 66 => [.aload 0, .checkcast 1582576, .sipush 1, .aload 0, .sipush 1, .sipush 8, .invokeinterface 2748 2, .iastore, .aload 0, .sipush 1, .invokeinterface 2700 1, .ifCond .ne 92, .aload 0, .sipush 2, .invokeinterface 2732 1, .jsr 92]
  | 92 => [.aload 0, .sipush 0, .sipush 999, .invokeinterface 2748 2, .istore 2, .sipush 0, .istore 3, .jsr 103]
  | 103 => [.goto_w 103]
  | 125 => [.aload 0, .invokeinterface 2764 0, .jsr 129]
  | 129 => [.goto_w 129]
  | 156 => [.aload 0, .aload 0, .getfield 779, .putfield 781, .aload 0, .aload 0, .getfield 779, .ifCond .ne 176, .sipush (-1), .goto 180]
  | 176 => [.aload 0, .getfield 780, .jsr 180]
  | 180 => [.putfield 782, .aload 0, .getfield 779, .ifCond .eq 198, .sipush (-30), .aload 0, .getfield 779, .isub, .ireturn]
  | 198 => [.sipush 0, .istore 3, .jsr 200]
  | 200 => [.goto_w 200]
  | 225 => [.aload 0, .invokeinterface 3004 0, .aload 0, .checkcast 1576336, .sipush 0, .iaload, .ireturn]
  | _ => []
theorem k_X12_bridge : ∀ t, bok (mC 161) (mB 161) (mL 161) t (b_X12_bridge t) = true := by
  intro t
  unfold b_X12_bridge
  split
  all_goals first | decide +kernel | rfl
theorem e_X12_bridge {d : Nat} {av : List AV} {σ : Mem} {K : Option AV → Mem → Prop} (hl : (entL av).length ≤ 4) (h : wp d 161 b_X12_bridge K 400 (b_X12_bridge 0) (ent 4 av) [] σ) : Ev (d + 1) 161 av σ K := Ev.enter (by decide) (by decide +kernel) hl (wp_ok k_X12_bridge 400 _ 0 _ _ _ (k_X12_bridge 0) h)
theorem r_X12_bridge : mR 161 = (some .int) := by decide +kernel
def h_X12_bridge_103 : List Instr := [.iload 3, .sipush 8, .if_icmp .ge 125, .aload 0, .checkcast 1582576, .sipush 10, .iload 3, .iadd, .iload 2, .iastore, .iinc 3 1, .goto 103]
theorem l_X12_bridge_103 {d : Nat} {ls st : List AV} {σ : Mem} {K : Option AV → Mem → Prop} (h : wp d 161 b_X12_bridge K 400 h_X12_bridge_103 ls st σ) : Rn (d + 1) 161 103 ls st σ K := wp_ok k_X12_bridge 400 _ 103 _ _ _ (by decide +kernel) h
def h_X12_bridge_129 : List Instr := [.aload 0, .getfield 779, .ifCond .ne 156, .aload 0, .getfield 777, .sipush 25, .if_icmp .eq 156, .aload 0, .invokeinterface 2780 0, .aload 0, .invokeinterface 2764 0, .goto 129]
theorem l_X12_bridge_129 {d : Nat} {ls st : List AV} {σ : Mem} {K : Option AV → Mem → Prop} (h : wp d 161 b_X12_bridge K 400 h_X12_bridge_129 ls st σ) : Rn (d + 1) 161 129 ls st σ K := wp_ok k_X12_bridge 400 _ 129 _ _ _ (by decide +kernel) h
def h_X12_bridge_200 : List Instr := [.iload 3, .sipush 1514, .if_icmp .ge 225, .aload 0, .checkcast 1576336, .iload 3, .aload 0, .checkcast 1582576, .iload 3, .iaload, .iastore, .iinc 3 1, .goto 200]
theorem l_X12_bridge_200 {d : Nat} {ls st : List AV} {σ : Mem} {K : Option AV → Mem → Prop} (h : wp d 161 b_X12_bridge K 400 h_X12_bridge_200 ls st σ) : Rn (d + 1) 161 200 ls st σ K := wp_ok k_X12_bridge 400 _ 200 _ _ _ (by decide +kernel) h
def b_X12_within (t : Nat) : List Instr := match t with
  | 0 => [.lload 0, .lload 2, .lcmp, .ifCond .lt 17, .lload 0, .lload 4, .lcmp, .ifCond .gt 17, .sipush 1, .goto 18]
  | 17 => [.sipush 0, .jsr 18]
  | 18 => [.ireturn]
  | _ => []
theorem k_X12_within : ∀ t, bok (mC 162) (mB 162) (mL 162) t (b_X12_within t) = true := by
  intro t
  unfold b_X12_within
  split
  all_goals first | decide +kernel | rfl
theorem e_X12_within {d : Nat} {av : List AV} {σ : Mem} {K : Option AV → Mem → Prop} (hl : (entL av).length ≤ 6) (h : wp d 162 b_X12_within K 400 (b_X12_within 0) (ent 6 av) [] σ) : Ev (d + 1) 162 av σ K := Ev.enter (by decide) (by decide +kernel) hl (wp_ok k_X12_within 400 _ 0 _ _ _ (k_X12_within 0) h)
theorem r_X12_within : mR 162 = (some .boolean) := by decide +kernel
def b_X12_next (t : Nat) : List Instr := match t with
  | 0 => [.aload 0, .aload 0, .getfield 775, .putfield 774, .jsr 8]
  | 8 => [.goto_w 8]
  | 34 => [.aload 0, .dup, .getfield 774, .sipush 1, .iadd, .putfield 774, .goto 8]
  | 47 => [.aload 0, .aload 0, .getfield 774, .putfield 775, .aload 0, .getfield 774, .aload 0, .getfield 776, .if_icmp .lt 75, .aload 0, .sipush 25, .putfield 777, .goto 294]
  | 75 => [.aload 0, .aload 0, .getfield 774, .invokeinterface 2636 1, .multianewarray 165 1, .ifCond .eq 127, .jsr 89]
  | 89 => [.goto_w 89]
  | 116 => [.aload 0, .aload 0, .invokeinterface 2668 0, .putfield 777, .goto 294]
  | 127 => [.aload 0, .aload 0, .getfield 774, .invokeinterface 2636 1, .multianewarray 167 1, .ifCond .eq 236, .aload 0, .sipush 0, .putfield 778, .jsr 146]
  | 146 => [.goto_w 146]
  | 196 => [.aload 0, .dup, .getfield 775, .sipush 1, .iadd, .putfield 775, .goto 146]
  | 209 => [.aload 0, .aload 0, .getfield 775, .aload 0, .getfield 774, .isub, .sipush 3, .if_icmp .le 228, .sipush 26, .goto 230]
  | 228 => [.sipush 24, .jsr 230]
  | 230 => [.putfield 777, .goto 294]
  | 236 => [.aload 0, .dup, .getfield 775, .sipush 1, .iadd, .putfield 775, .aload 0, .sipush 26, .putfield 777, .sipush 0, .istore 1, .jsr 254]
  | 254 => [.goto_w 254]
  | 288 => [.iinc 1 1, .goto 254]
  | 294 => [.return_]
  | _ => []
theorem k_X12_next : ∀ t, bok (mC 163) (mB 163) (mL 163) t (b_X12_next t) = true := by
  intro t
  unfold b_X12_next
  split
  all_goals first | decide +kernel | rfl
theorem e_X12_next {d : Nat} {av : List AV} {σ : Mem} {K : Option AV → Mem → Prop} (hl : (entL av).length ≤ 2) (h : wp d 163 b_X12_next K 400 (b_X12_next 0) (ent 2 av) [] σ) : Ev (d + 1) 163 av σ K := Ev.enter (by decide) (by decide +kernel) hl (wp_ok k_X12_next 400 _ 0 _ _ _ (k_X12_next 0) h)
theorem r_X12_next : mR 163 = none := by decide +kernel
def h_X12_next_8 : List Instr := [.aload 0, .aload 0, .getfield 774, .invokeinterface 2636 1, .sipush 10, .if_icmp .eq 34, .aload 0, .aload 0, .getfield 774, .invokeinterface 2636 1, .sipush 32, .if_icmp .ne 47, .jsr 34]
theorem l_X12_next_8 {d : Nat} {ls st : List AV} {σ : Mem} {K : Option AV → Mem → Prop} (h : wp d 163 b_X12_next K 400 h_X12_next_8 ls st σ) : Rn (d + 1) 163 8 ls st σ K := wp_ok k_X12_next 400 _ 8 _ _ _ (by decide +kernel) h
def h_X12_next_89 : List Instr := [.aload 0, .aload 0, .getfield 775, .invokeinterface 2636 1, .multianewarray 165 1, .ifCond .eq 116, .aload 0, .dup, .getfield 775, .sipush 1, .iadd, .putfield 775, .goto 89]
theorem l_X12_next_89 {d : Nat} {ls st : List AV} {σ : Mem} {K : Option AV → Mem → Prop} (h : wp d 163 b_X12_next K 400 h_X12_next_89 ls st σ) : Rn (d + 1) 163 89 ls st σ K := wp_ok k_X12_next 400 _ 89 _ _ _ (by decide +kernel) h
def h_X12_next_146 : List Instr := [.aload 0, .aload 0, .getfield 775, .invokeinterface 2636 1, .multianewarray 167 1, .ifCond .eq 209, .aload 0, .getfield 775, .aload 0, .getfield 774, .isub, .sipush 3, .if_icmp .ge 196, .aload 0, .sipush 10, .aload 0, .getfield 778, .imul, .aload 0, .aload 0, .getfield 775, .invokeinterface 2636 1, .iadd, .sipush 48, .isub, .putfield 778, .jsr 196]
theorem l_X12_next_146 {d : Nat} {ls st : List AV} {σ : Mem} {K : Option AV → Mem → Prop} (h : wp d 163 b_X12_next K 400 h_X12_next_146 ls st σ) : Rn (d + 1) 163 146 ls st σ K := wp_ok k_X12_next 400 _ 146 _ _ _ (by decide +kernel) h
def h_X12_next_254 : List Instr := [.iload 1, .ldc 0, .invokevirtual 303, .if_icmp .ge 294, .aload 0, .aload 0, .getfield 774, .invokeinterface 2636 1, .ldc 0, .iload 1, .invokevirtual 306, .if_icmp .ne 288, .aload 0, .sipush 30, .iload 1, .iadd, .putfield 777, .jsr 288]
theorem l_X12_next_254 {d : Nat} {ls st : List AV} {σ : Mem} {K : Option AV → Mem → Prop} (h : wp d 163 b_X12_next K 400 h_X12_next_254 ls st σ) : Rn (d + 1) 163 254 ls st σ K := wp_ok k_X12_next 400 _ 254 _ _ _ (by decide +kernel) h
