/-! 11: the code of the methods, resolved, in blocks (written by wip/whole/code.py) -/
def b_X12_perform (t : Nat) : List Instr := match t with
  | 0 => [.aload 0, .sipush 0, .putfield 768, .aload 0, .iload 1, .invokeinterface 3644 1, .istore 2, .iload 2, .ifCond .eq 17, .iload 2, .ireturn]
  | 17 => [.aload 0, .invokeinterface 3340 0, .aload 0, .iload 1, .invokeinterface 3820 1, .istore 3, .iload 3, .ifCond .le 35, .aload 0, .invokeinterface 3356 0, .jsr 35]
  | 35 => [.iload 3, .ireturn]
  | _ => []
theorem k_X12_perform : ∀ t, bok (mC 244) (mB 244) (mL 244) t (b_X12_perform t) = true := by
  intro t
  unfold b_X12_perform
  split
  all_goals first | decide +kernel | rfl
theorem e_X12_perform {d : Nat} {av : List AV} {σ : Mem} {K : Option AV → Mem → Prop} (hl : (entL av).length ≤ 4) (h : wp d 244 b_X12_perform K 400 (b_X12_perform 0) (ent 4 av) [] σ) : Ev (d + 1) 244 av σ K := Ev.enter (by decide) (by decide +kernel) hl (wp_ok k_X12_perform 400 _ 0 _ _ _ (k_X12_perform 0) h)
theorem r_X12_perform : mR 244 = (some .int) := by decide +kernel
def b_X12_season (t : Nat) : List Instr := match t with
  | 0 => [.aload 0, .sipush 0, .putfield 768, .iload 2, .i2l, .jsr_w 1, .jsr_w 40, .multianewarray 162 3, .ifCond .ne 20, .sipush (-3), .ireturn]
  | 20 => [.aload 0, .invokeinterface 3340 0, .aload 0, .checkcast 1576336, .sipush 20, .iload 1, .iastore, .sipush 0, .istore 3, .sipush 0, .istore 4, .jsr 37]
  | 37 => [.goto_w 37]
  | 62 => [.aload 0, .iload 5, .invokeinterface 3852 1, .iinc 3 1, .jsr 71]
  | 71 => [.iinc 4 1, .goto 37]
  | 77 => [.iload 3, .ifCond .le 88, .aload 0, .invokeinterface 3356 0, .goto 92]
  | 88 => [.aload 0, .invokeinterface 3900 0, .jsr 92]
  | 92 => [.iload 3, .ireturn]
  | _ => []
theorem k_X12_season : ∀ t, bok (mC 245) (mB 245) (mL 245) t (b_X12_season t) = true := by
  intro t
  unfold b_X12_season
  split
  all_goals first | decide +kernel | rfl
theorem e_X12_season {d : Nat} {av : List AV} {σ : Mem} {K : Option AV → Mem → Prop} (hl : (entL av).length ≤ 6) (h : wp d 245 b_X12_season K 400 (b_X12_season 0) (ent 6 av) [] σ) : Ev (d + 1) 245 av σ K := Ev.enter (by decide) (by decide +kernel) hl (wp_ok k_X12_season 400 _ 0 _ _ _ (k_X12_season 0) h)
theorem r_X12_season : mR 245 = (some .int) := by decide +kernel
def h_X12_season_37 : List Instr := [.iload 4, .iload 2, .if_icmp .ge 77, .aload 0, .invokeinterface 3948 0, .istore 5, .aload 0, .iload 5, .i2l, .invokeinterface 3836 1, .ifCond .eq 62, .goto 71]
theorem l_X12_season_37 {d : Nat} {ls st : List AV} {σ : Mem} {K : Option AV → Mem → Prop} (h : wp d 245 b_X12_season K 400 h_X12_season_37 ls st σ) : Rn (d + 1) 245 37 ls st σ K := wp_ok k_X12_season 400 _ 37 _ _ _ (by decide +kernel) h
def b_X12_drawn (t : Nat) : List Instr := match t with
  | 0 => [.aload 0, .sipush 6, .invokeinterface 3772 1, .istore 1, .iload 1, .ifCond .ne 13, .sipush (-1), .ireturn]
  | 13 => [.aload 0, .sipush 6, .invokeinterface 3772 1, .istore 2, .iload 1, .sipush 4, .if_icmp .ge 29, .iload 2, .goto 47]
  | 29 => [.sipush 100, .iload 1, .sipush 3, .isub, .imul, .sipush 10, .iload 2, .imul, .iadd, .aload 0, .sipush 6, .invokeinterface 3772 1, .iadd, .jsr 47]
  | 47 => [.ireturn]
  | _ => []
theorem k_X12_drawn : ∀ t, bok (mC 246) (mB 246) (mL 246) t (b_X12_drawn t) = true := by
  intro t
  unfold b_X12_drawn
  split
  all_goals first | decide +kernel | rfl
theorem e_X12_drawn {d : Nat} {av : List AV} {σ : Mem} {K : Option AV → Mem → Prop} (hl : (entL av).length ≤ 3) (h : wp d 246 b_X12_drawn K 400 (b_X12_drawn 0) (ent 3 av) [] σ) : Ev (d + 1) 246 av σ K := Ev.enter (by decide) (by decide +kernel) hl (wp_ok k_X12_drawn 400 _ 0 _ _ _ (k_X12_drawn 0) h)
theorem r_X12_drawn : mR 246 = (some .int) := by decide +kernel
def b_X12_alone (t : Nat) : List Instr := match t with
  | 0 => [.aload 0, .sipush 0, .putfield 768, .aload 0, .iload 1, .i2l, .invokeinterface 3260 1, .ifCond .eq 22, .aload 0, .iload 1, .invokeinterface 3980 1, .goto 24]
  | 22 => [.sipush (-2), .jsr 24]
  | 24 => [.ireturn]
  | _ => []
theorem k_X12_alone : ∀ t, bok (mC 247) (mB 247) (mL 247) t (b_X12_alone t) = true := by
  intro t
  unfold b_X12_alone
  split
  all_goals first | decide +kernel | rfl
theorem e_X12_alone {d : Nat} {av : List AV} {σ : Mem} {K : Option AV → Mem → Prop} (hl : (entL av).length ≤ 2) (h : wp d 247 b_X12_alone K 400 (b_X12_alone 0) (ent 2 av) [] σ) : Ev (d + 1) 247 av σ K := Ev.enter (by decide) (by decide +kernel) hl (wp_ok k_X12_alone 400 _ 0 _ _ _ (k_X12_alone 0) h)
theorem r_X12_alone : mR 247 = (some .int) := by decide +kernel
def b_X12_stops (t : Nat) : List Instr := match t with
  | 0 => [.aload 0, .iload 1, .invokeinterface 3052 1, .istore 2, .sipush 0, .istore 3, .jsr 8]
  | 8 => [.goto_w 8]
  | 43 => [.iload 3, .ireturn]
  | 45 => [.aload 0, .invokeinterface 3996 0, .aload 0, .checkcast 1611344, .iload 3, .iload 2, .iastore, .aload 0, .invokeinterface 3164 0, .istore 4, .iload 4, .sipush (-1), .if_icmp .eq 71, .iload 4, .ireturn]
  | 71 => [.iinc 3 1, .goto 8]
  | 77 => [.sipush (-1), .ireturn]
  | _ => []
theorem k_X12_stops : ∀ t, bok (mC 248) (mB 248) (mL 248) t (b_X12_stops t) = true := by
  intro t
  unfold b_X12_stops
  split
  all_goals first | decide +kernel | rfl
theorem e_X12_stops {d : Nat} {av : List AV} {σ : Mem} {K : Option AV → Mem → Prop} (hl : (entL av).length ≤ 5) (h : wp d 248 b_X12_stops K 400 (b_X12_stops 0) (ent 5 av) [] σ) : Ev (d + 1) 248 av σ K := Ev.enter (by decide) (by decide +kernel) hl (wp_ok k_X12_stops 400 _ 0 _ _ _ (k_X12_stops 0) h)
theorem r_X12_stops : mR 248 = (some .int) := by decide +kernel
def h_X12_stops_8 : List Instr := [.iload 3, .aload 0, .checkcast 1576336, .sipush 1, .iaload, .if_icmp .ge 77, .aload 0, .checkcast 1576336, .sipush 21, .iaload, .i2l, .iload 3, .multianewarray 198 2, .ifCond .ne 43, .aload 0, .iload 1, .iload 3, .sipush 0, .invokeinterface 3468 3, .ifCond .ne 45, .jsr 43]
theorem l_X12_stops_8 {d : Nat} {ls st : List AV} {σ : Mem} {K : Option AV → Mem → Prop} (h : wp d 248 b_X12_stops K 400 h_X12_stops_8 ls st σ) : Rn (d + 1) 248 8 ls st σ K := wp_ok k_X12_stops 400 _ 8 _ _ _ (by decide +kernel) h
def b_X12_laysNone (t : Nat) : List Instr := match t with
  | 0 => [.sipush 0, .istore 1, .jsr 2]
  | 2 => [.goto_w 2]
  | 21 => [.return_]
  | _ => []
theorem k_X12_laysNone : ∀ t, bok (mC 249) (mB 249) (mL 249) t (b_X12_laysNone t) = true := by
  intro t
  unfold b_X12_laysNone
  split
  all_goals first | decide +kernel | rfl
theorem e_X12_laysNone {d : Nat} {av : List AV} {σ : Mem} {K : Option AV → Mem → Prop} (hl : (entL av).length ≤ 2) (h : wp d 249 b_X12_laysNone K 400 (b_X12_laysNone 0) (ent 2 av) [] σ) : Ev (d + 1) 249 av σ K := Ev.enter (by decide) (by decide +kernel) hl (wp_ok k_X12_laysNone 400 _ 0 _ _ _ (k_X12_laysNone 0) h)
theorem r_X12_laysNone : mR 249 = none := by decide +kernel
def h_X12_laysNone_2 : List Instr := [.iload 1, .sipush 8, .if_icmp .ge 21, .aload 0, .checkcast 1611344, .iload 1, .sipush 0, .iastore, .iinc 1 1, .goto 2]
theorem l_X12_laysNone_2 {d : Nat} {ls st : List AV} {σ : Mem} {K : Option AV → Mem → Prop} (h : wp d 249 b_X12_laysNone K 400 h_X12_laysNone_2 ls st σ) : Rn (d + 1) 249 2 ls st σ K := wp_ok k_X12_laysNone 400 _ 2 _ _ _ (by decide +kernel) h
def b_X12_able (t : Nat) : List Instr := match t with
  | 0 => [.aload 0, .sipush 0, .putfield 768, .aload 0, .invokeinterface 4028 0, .ireturn]
  | _ => []
theorem k_X12_able : ∀ t, bok (mC 250) (mB 250) (mL 250) t (b_X12_able t) = true := by
  intro t
  unfold b_X12_able
  split
  all_goals first | decide +kernel | rfl
theorem e_X12_able {d : Nat} {av : List AV} {σ : Mem} {K : Option AV → Mem → Prop} (hl : (entL av).length ≤ 1) (h : wp d 250 b_X12_able K 400 (b_X12_able 0) (ent 1 av) [] σ) : Ev (d + 1) 250 av σ K := Ev.enter (by decide) (by decide +kernel) hl (wp_ok k_X12_able 400 _ 0 _ _ _ (k_X12_able 0) h)
theorem r_X12_able : mR 250 = (some .int) := by decide +kernel
def b_X12_ableSet (t : Nat) : List Instr := match t with
  | 0 => [.sipush 0, .istore 1, .sipush 0, .istore 2, .jsr 4]
  | 4 => [.goto_w 4]
  | 30 => [.sipush 0, .jsr 31]
  | 31 => [.ior, .istore 1, .iinc 2 1, .goto 4]
  | 39 => [.iload 1, .ireturn]
  | _ => []
theorem k_X12_ableSet : ∀ t, bok (mC 251) (mB 251) (mL 251) t (b_X12_ableSet t) = true := by
  intro t
  unfold b_X12_ableSet
  split
  all_goals first | decide +kernel | rfl
theorem e_X12_ableSet {d : Nat} {av : List AV} {σ : Mem} {K : Option AV → Mem → Prop} (hl : (entL av).length ≤ 3) (h : wp d 251 b_X12_ableSet K 400 (b_X12_ableSet 0) (ent 3 av) [] σ) : Ev (d + 1) 251 av σ K := Ev.enter (by decide) (by decide +kernel) hl (wp_ok k_X12_ableSet 400 _ 0 _ _ _ (k_X12_ableSet 0) h)
theorem r_X12_ableSet : mR 251 = (some .int) := by decide +kernel
def h_X12_ableSet_4 : List Instr := [.iload 2, .aload 0, .checkcast 1576336, .sipush 2, .iaload, .if_icmp .ge 39, .iload 1, .aload 0, .iload 2, .invokeinterface 3980 1, .sipush (-1), .if_icmp .ne 30, .sipush 1, .iload 2, .ishl, .goto 31]
theorem l_X12_ableSet_4 {d : Nat} {ls st : List AV} {σ : Mem} {K : Option AV → Mem → Prop} (h : wp d 251 b_X12_ableSet K 400 h_X12_ableSet_4 ls st σ) : Rn (d + 1) 251 4 ls st σ K := wp_ok k_X12_ableSet 400 _ 4 _ _ _ (by decide +kernel) h
def b_X12_tears (t : Nat) : List Instr := match t with
  | 0 => [.aload 0, .sipush 0, .putfield 768, .aload 0, .iload 1, .i2l, .invokeinterface 3260 1, .ifCond .eq 24, .iload 2, .i2l, .jsr_w 0, .jsr_w 1, .multianewarray 162 3, .ifCond .ne 27, .jsr 24]
  | 24 => [.sipush (-2), .ireturn]
  | 27 => [.sipush 0, .istore 3, .sipush 0, .istore 4, .jsr 32]
  | 32 => [.goto_w 32]
  | 61 => [.sipush 0, .jsr 62]
  | 62 => [.ior, .istore 3, .iinc 4 1, .goto 32]
  | 70 => [.sipush (-1), .istore 4, .sipush 0, .istore 5, .jsr 76]
  | 76 => [.goto_w 76]
  | 113 => [.aload 0, .invokeinterface 3340 0, .sipush 0, .istore 6, .jsr 120]
  | 120 => [.goto_w 120]
  | 158 => [.iinc 6 1, .goto 120]
  | 164 => [.aload 0, .iload 1, .invokeinterface 3980 1, .sipush (-1), .if_icmp .ne 177, .iload 5, .istore 4, .jsr 177]
  | 177 => [.aload 0, .invokeinterface 3900 0, .jsr 181]
  | 181 => [.iinc 5 1, .goto 76]
  | 187 => [.iload 4, .sipush (-1), .if_icmp .eq 198, .iload 2, .sipush 1, .if_icmp .ne 203, .jsr 198]
  | 198 => [.iload 4, .goto 208]
  | 203 => [.iload 4, .multianewarray 253 1, .jsr 208]
  | 208 => [.ireturn]
  | _ => []
theorem k_X12_tears : ∀ t, bok (mC 252) (mB 252) (mL 252) t (b_X12_tears t) = true := by
  intro t
  unfold b_X12_tears
  split
  all_goals first | decide +kernel | rfl
theorem e_X12_tears {d : Nat} {av : List AV} {σ : Mem} {K : Option AV → Mem → Prop} (hl : (entL av).length ≤ 7) (h : wp d 252 b_X12_tears K 400 (b_X12_tears 0) (ent 7 av) [] σ) : Ev (d + 1) 252 av σ K := Ev.enter (by decide) (by decide +kernel) hl (wp_ok k_X12_tears 400 _ 0 _ _ _ (k_X12_tears 0) h)
theorem r_X12_tears : mR 252 = (some .int) := by decide +kernel
def h_X12_tears_32 : List Instr := [.iload 4, .aload 0, .checkcast 1576336, .sipush 2, .iaload, .if_icmp .ge 70, .iload 3, .aload 0, .iload 1, .iload 4, .invokeinterface 3084 2, .ifCond .le 61, .sipush 1, .iload 4, .ishl, .goto 62]
theorem l_X12_tears_32 {d : Nat} {ls st : List AV} {σ : Mem} {K : Option AV → Mem → Prop} (h : wp d 252 b_X12_tears K 400 h_X12_tears_32 ls st σ) : Rn (d + 1) 252 32 ls st σ K := wp_ok k_X12_tears 400 _ 32 _ _ _ (by decide +kernel) h
def h_X12_tears_76 : List Instr := [.iload 5, .iload 3, .if_icmp .gt 187, .iload 5, .iload 3, .sipush (-1), .ixor, .iand, .ifCond .ne 181, .iload 4, .sipush (-1), .if_icmp .eq 113, .iload 5, .multianewarray 253 1, .iload 4, .multianewarray 253 1, .if_icmp .lt 113, .goto 181]
theorem l_X12_tears_76 {d : Nat} {ls st : List AV} {σ : Mem} {K : Option AV → Mem → Prop} (h : wp d 252 b_X12_tears K 400 h_X12_tears_76 ls st σ) : Rn (d + 1) 252 76 ls st σ K := wp_ok k_X12_tears 400 _ 76 _ _ _ (by decide +kernel) h
def h_X12_tears_120 : List Instr := [.iload 6, .aload 0, .checkcast 1576336, .sipush 2, .iaload, .if_icmp .ge 164, .iload 5, .i2l, .iload 6, .multianewarray 198 2, .ifCond .eq 158, .aload 0, .checkcast 1576336, .sipush 36, .sipush 6, .iload 1, .imul, .iadd, .iload 6, .iadd, .sipush 0, .iastore, .jsr 158]
theorem l_X12_tears_120 {d : Nat} {ls st : List AV} {σ : Mem} {K : Option AV → Mem → Prop} (h : wp d 252 b_X12_tears K 400 h_X12_tears_120 ls st σ) : Rn (d + 1) 252 120 ls st σ K := wp_ok k_X12_tears 400 _ 120 _ _ _ (by decide +kernel) h
def b_X12_bitsOf (t : Nat) : List Instr := match t with
  | 0 => [.sipush 0, .istore 1, .sipush 0, .istore 2, .jsr 4]
  | 4 => [.goto_w 4]
  | 24 => [.iload 1, .ireturn]
  | _ => []
theorem k_X12_bitsOf : ∀ t, bok (mC 253) (mB 253) (mL 253) t (b_X12_bitsOf t) = true := by
  intro t
  unfold b_X12_bitsOf
  split
  all_goals first | decide +kernel | rfl
theorem e_X12_bitsOf {d : Nat} {av : List AV} {σ : Mem} {K : Option AV → Mem → Prop} (hl : (entL av).length ≤ 3) (h : wp d 253 b_X12_bitsOf K 400 (b_X12_bitsOf 0) (ent 3 av) [] σ) : Ev (d + 1) 253 av σ K := Ev.enter (by decide) (by decide +kernel) hl (wp_ok k_X12_bitsOf 400 _ 0 _ _ _ (k_X12_bitsOf 0) h)
theorem r_X12_bitsOf : mR 253 = (some .int) := by decide +kernel
def h_X12_bitsOf_4 : List Instr := [.iload 2, .sipush 8, .if_icmp .ge 24, .iload 1, .iload 0, .iload 2, .ishr, .sipush 1, .iand, .iadd, .istore 1, .iinc 2 1, .goto 4]
theorem l_X12_bitsOf_4 {d : Nat} {ls st : List AV} {σ : Mem} {K : Option AV → Mem → Prop} (h : wp d 253 b_X12_bitsOf K 400 h_X12_bitsOf_4 ls st σ) : Rn (d + 1) 253 4 ls st σ K := wp_ok k_X12_bitsOf 400 _ 4 _ _ _ (by decide +kernel) h
def b_X12_row (t : Nat) : List Instr := match t with
  | 0 => [.aload 0, .sipush 0, .putfield 768, .aload 0, .iload 1, .invokeinterface 3644 1, .istore 2, .iload 2, .ifCond .eq 17, .iload 2, .ireturn]
  | 17 => [.aload 0, .checkcast 1638192, .iload 1, .iaload, .i2l, .jsr_w 1, .jsr_w 6, .multianewarray 162 3, .ifCond .ne 37, .sipush (-4), .ireturn]
  | 37 => [.aload 0, .iload 1, .invokeinterface 3660 1, .ifCond .eq 53, .aload 0, .sipush 0, .invokeinterface 4092 1, .goto 55]
  | 53 => [.sipush (-3), .jsr 55]
  | 55 => [.ireturn]
  | _ => []
theorem k_X12_row : ∀ t, bok (mC 254) (mB 254) (mL 254) t (b_X12_row t) = true := by
  intro t
  unfold b_X12_row
  split
  all_goals first | decide +kernel | rfl
theorem e_X12_row {d : Nat} {av : List AV} {σ : Mem} {K : Option AV → Mem → Prop} (hl : (entL av).length ≤ 3) (h : wp d 254 b_X12_row K 400 (b_X12_row 0) (ent 3 av) [] σ) : Ev (d + 1) 254 av σ K := Ev.enter (by decide) (by decide +kernel) hl (wp_ok k_X12_row 400 _ 0 _ _ _ (k_X12_row 0) h)
theorem r_X12_row : mR 254 = (some .int) := by decide +kernel
def b_X12_stopsRow (t : Nat) : List Instr := match t with
  | 0 => [.iload 1, .sipush 1, .iadd, .istore 2, .aload 0, .checkcast 1576336, .sipush 1, .iaload, .iload 2, .aload 0, .getfield 789, .sipush 1, .isub, .imul, .iadd, .istore 3, .sipush 0, .istore 4, .jsr 23]
  | 23 => [.goto_w 23]
  | 39 => [.goto_w 39]
  | 70 => [.aload 0, .checkcast 1611344, .iload 7, .dup2, .iaload, .aload 0, .aload 0, .checkcast 1615504, .iload 6, .iaload, .invokeinterface 3052 1, .iadd, .iastore, .iload 5, .sipush 1, .iload 7, .ishl, .ior, .istore 5, .jsr 100]
  | 100 => [.iinc 6 1, .goto 39]
  | 106 => [.sipush 0, .istore 6, .jsr 109]
  | 109 => [.goto_w 109]
  | 154 => [.aload 0, .iload 6, .invokeinterface 3196 1, .aload 0, .iload 6, .invokeinterface 3212 1, .if_icmp .le 172, .jsr 169]
  | 169 => [.iload 6, .ireturn]
  | 172 => [.iinc 6 1, .goto 109]
  | 178 => [.iinc 4 1, .goto 23]
  | 184 => [.sipush (-1), .ireturn]
  | _ => []
theorem k_X12_stopsRow : ∀ t, bok (mC 255) (mB 255) (mL 255) t (b_X12_stopsRow t) = true := by
  intro t
  unfold b_X12_stopsRow
  split
  all_goals first | decide +kernel | rfl
theorem e_X12_stopsRow {d : Nat} {av : List AV} {σ : Mem} {K : Option AV → Mem → Prop} (hl : (entL av).length ≤ 8) (h : wp d 255 b_X12_stopsRow K 400 (b_X12_stopsRow 0) (ent 8 av) [] σ) : Ev (d + 1) 255 av σ K := Ev.enter (by decide) (by decide +kernel) hl (wp_ok k_X12_stopsRow 400 _ 0 _ _ _ (k_X12_stopsRow 0) h)
theorem r_X12_stopsRow : mR 255 = (some .int) := by decide +kernel
def h_X12_stopsRow_23 : List Instr := [.iload 4, .iload 3, .if_icmp .ge 184, .aload 0, .invokeinterface 3996 0, .sipush 0, .istore 5, .sipush 0, .istore 6, .jsr 39]
theorem l_X12_stopsRow_23 {d : Nat} {ls st : List AV} {σ : Mem} {K : Option AV → Mem → Prop} (h : wp d 255 b_X12_stopsRow K 400 h_X12_stopsRow_23 ls st σ) : Rn (d + 1) 255 23 ls st σ K := wp_ok k_X12_stopsRow 400 _ 23 _ _ _ (by decide +kernel) h
def h_X12_stopsRow_39 : List Instr := [.iload 6, .aload 0, .getfield 789, .if_icmp .ge 106, .iload 4, .iload 2, .iload 6, .imul, .isub, .istore 7, .aload 0, .iload 7, .i2l, .invokeinterface 3308 1, .ifCond .ne 70, .goto 100]
theorem l_X12_stopsRow_39 {d : Nat} {ls st : List AV} {σ : Mem} {K : Option AV → Mem → Prop} (h : wp d 255 b_X12_stopsRow K 400 h_X12_stopsRow_39 ls st σ) : Rn (d + 1) 255 39 ls st σ K := wp_ok k_X12_stopsRow 400 _ 39 _ _ _ (by decide +kernel) h
def h_X12_stopsRow_109 : List Instr := [.iload 6, .aload 0, .checkcast 1576336, .sipush 1, .iaload, .if_icmp .ge 178, .aload 0, .checkcast 1576336, .sipush 21, .iaload, .i2l, .iload 6, .multianewarray 198 2, .istore 7, .iload 7, .ifCond .eq 154, .iload 5, .i2l, .iload 6, .multianewarray 198 2, .ifCond .eq 172, .goto 169]
theorem l_X12_stopsRow_109 {d : Nat} {ls st : List AV} {σ : Mem} {K : Option AV → Mem → Prop} (h : wp d 255 b_X12_stopsRow K 400 h_X12_stopsRow_109 ls st σ) : Rn (d + 1) 255 109 ls st σ K := wp_ok k_X12_stopsRow 400 _ 109 _ _ _ (by decide +kernel) h
def b_X12_order (t : Nat) : List Instr := match t with
  | 0 => [.aload 0, .sipush 0, .putfield 768, .aload 0, .iload 1, .invokeinterface 4124 1, .ifCond .eq 17, .iload 2, .ifCond .ge 20, .jsr 17]
  | 17 => [.sipush (-3), .ireturn]
  | 20 => [.aload 0, .iload 1, .invokeinterface 4140 1, .aload 0, .getfield 792, .ifCond .le 49, .iload 2, .iload 1, .multianewarray 253 1, .if_icmp .ge 49, .aload 0, .checkcast 1621680, .iload 2, .iaload, .goto 50]
  | 49 => [.sipush (-1), .jsr 50]
  | 50 => [.ireturn]
  | _ => []
theorem k_X12_order : ∀ t, bok (mC 256) (mB 256) (mL 256) t (b_X12_order t) = true := by
  intro t
  unfold b_X12_order
  split
  all_goals first | decide +kernel | rfl
theorem e_X12_order {d : Nat} {av : List AV} {σ : Mem} {K : Option AV → Mem → Prop} (hl : (entL av).length ≤ 3) (h : wp d 256 b_X12_order K 400 (b_X12_order 0) (ent 3 av) [] σ) : Ev (d + 1) 256 av σ K := Ev.enter (by decide) (by decide +kernel) hl (wp_ok k_X12_order 400 _ 0 _ _ _ (k_X12_order 0) h)
theorem r_X12_order : mR 256 = (some .int) := by decide +kernel
def b_X12_isSet (t : Nat) : List Instr := match t with
  | 0 => [.iload 1, .ifCond .le 20, .iload 1, .sipush 1, .aload 0, .checkcast 1576336, .sipush 2, .iaload, .ishl, .if_icmp .ge 20, .sipush 1, .goto 21]
  | 20 => [.sipush 0, .jsr 21]
  | 21 => [.ireturn]
  | _ => []
theorem k_X12_isSet : ∀ t, bok (mC 257) (mB 257) (mL 257) t (b_X12_isSet t) = true := by
  intro t
  unfold b_X12_isSet
  split
  all_goals first | decide +kernel | rfl
theorem e_X12_isSet {d : Nat} {av : List AV} {σ : Mem} {K : Option AV → Mem → Prop} (hl : (entL av).length ≤ 2) (h : wp d 257 b_X12_isSet K 400 (b_X12_isSet 0) (ent 2 av) [] σ) : Ev (d + 1) 257 av σ K := Ev.enter (by decide) (by decide +kernel) hl (wp_ok k_X12_isSet 400 _ 0 _ _ _ (k_X12_isSet 0) h)
theorem r_X12_isSet : mR 257 = (some .boolean) := by decide +kernel
def b_X12_laysRows (t : Nat) : List Instr := match t with
  | 0 => [.aload 0, .sipush 0, .putfield 792, .aload 0, .sipush 0, .putfield 789, .aload 0, .iload 1, .invokeinterface 4156 1, .return_]
  | _ => []
theorem k_X12_laysRows : ∀ t, bok (mC 258) (mB 258) (mL 258) t (b_X12_laysRows t) = true := by
  intro t
  unfold b_X12_laysRows
  split
  all_goals first | decide +kernel | rfl
theorem e_X12_laysRows {d : Nat} {av : List AV} {σ : Mem} {K : Option AV → Mem → Prop} (hl : (entL av).length ≤ 2) (h : wp d 258 b_X12_laysRows K 400 (b_X12_laysRows 0) (ent 2 av) [] σ) : Ev (d + 1) 258 av σ K := Ev.enter (by decide) (by decide +kernel) hl (wp_ok k_X12_laysRows 400 _ 0 _ _ _ (k_X12_laysRows 0) h)
theorem r_X12_laysRows : mR 258 = none := by decide +kernel
def b_X12_goesRows (t : Nat) : List Instr := match t with
  | 0 => [.iload 1, .ifCond .ne 60, .aload 0, .sipush 0, .invokeinterface 4092 1, .sipush (-1), .if_icmp .eq 14, .return_]
  | 14 => [.aload 0, .getfield 792, .ifCond .ne 49, .sipush 0, .istore 2, .jsr 23]
  | 23 => [.goto_w 23]
  | 49 => [.aload 0, .dup, .getfield 792, .sipush 1, .iadd, .putfield 792, .return_]
  | 60 => [.sipush 0, .istore 2, .jsr 62]
  | 62 => [.goto_w 62]
  | 84 => [.aload 0, .checkcast 1615504, .aload 0, .getfield 789, .iload 2, .iastore, .aload 0, .dup, .getfield 789, .sipush 1, .iadd, .putfield 789, .aload 0, .iload 1, .sipush 1, .iload 2, .ishl, .sipush (-1), .ixor, .iand, .invokeinterface 4156 1, .aload 0, .dup, .getfield 789, .sipush 1, .isub, .putfield 789, .jsr 125]
  | 125 => [.iinc 2 1, .goto 62]
  | 131 => [.return_]
  | _ => []
theorem k_X12_goesRows : ∀ t, bok (mC 259) (mB 259) (mL 259) t (b_X12_goesRows t) = true := by
  intro t
  unfold b_X12_goesRows
  split
  all_goals first | decide +kernel | rfl
theorem e_X12_goesRows {d : Nat} {av : List AV} {σ : Mem} {K : Option AV → Mem → Prop} (hl : (entL av).length ≤ 3) (h : wp d 259 b_X12_goesRows K 400 (b_X12_goesRows 0) (ent 3 av) [] σ) : Ev (d + 1) 259 av σ K := Ev.enter (by decide) (by decide +kernel) hl (wp_ok k_X12_goesRows 400 _ 0 _ _ _ (k_X12_goesRows 0) h)
theorem r_X12_goesRows : mR 259 = none := by decide +kernel
def h_X12_goesRows_23 : List Instr := [.iload 2, .aload 0, .getfield 789, .if_icmp .ge 49, .aload 0, .checkcast 1621680, .iload 2, .aload 0, .checkcast 1615504, .iload 2, .iaload, .iastore, .iinc 2 1, .goto 23]
theorem l_X12_goesRows_23 {d : Nat} {ls st : List AV} {σ : Mem} {K : Option AV → Mem → Prop} (h : wp d 259 b_X12_goesRows K 400 h_X12_goesRows_23 ls st σ) : Rn (d + 1) 259 23 ls st σ K := wp_ok k_X12_goesRows 400 _ 23 _ _ _ (by decide +kernel) h
def h_X12_goesRows_62 : List Instr := [.iload 2, .aload 0, .checkcast 1576336, .sipush 2, .iaload, .if_icmp .ge 131, .iload 1, .i2l, .iload 2, .multianewarray 198 2, .ifCond .ne 84, .goto 125]
theorem l_X12_goesRows_62 {d : Nat} {ls st : List AV} {σ : Mem} {K : Option AV → Mem → Prop} (h : wp d 259 b_X12_goesRows K 400 h_X12_goesRows_62 ls st σ) : Rn (d + 1) 259 62 ls st σ K := wp_ok k_X12_goesRows 400 _ 62 _ _ _ (by decide +kernel) h
def b_X12_orders (t : Nat) : List Instr := match t with
  | 0 => [.aload 0, .sipush 0, .putfield 768, .aload 0, .iload 1, .invokeinterface 4124 1, .ifCond .ne 16, .sipush (-3), .ireturn]
  | 16 => [.aload 0, .iload 1, .invokeinterface 4140 1, .aload 0, .getfield 792, .ireturn]
  | _ => []
theorem k_X12_orders : ∀ t, bok (mC 260) (mB 260) (mL 260) t (b_X12_orders t) = true := by
  intro t
  unfold b_X12_orders
  split
  all_goals first | decide +kernel | rfl
theorem e_X12_orders {d : Nat} {av : List AV} {σ : Mem} {K : Option AV → Mem → Prop} (hl : (entL av).length ≤ 2) (h : wp d 260 b_X12_orders K 400 (b_X12_orders 0) (ent 2 av) [] σ) : Ev (d + 1) 260 av σ K := Ev.enter (by decide) (by decide +kernel) hl (wp_ok k_X12_orders 400 _ 0 _ _ _ (k_X12_orders 0) h)
theorem r_X12_orders : mR 260 = (some .int) := by decide +kernel
def b_X12_apart (t : Nat) : List Instr := match t with
  | 0 => [.aload 0, .sipush 0, .putfield 768, .aload 0, .iload 1, .i2l, .iload 2, .i2l, .invokeinterface 3548 2, .ifCond .ne 19, .sipush (-2), .ireturn]
  | 19 => [.aload 0, .checkcast 1615504, .sipush 0, .iload 1, .iastore, .aload 0, .checkcast 1615504, .sipush 1, .iload 2, .iastore, .aload 0, .sipush 2, .putfield 789, .sipush 0, .istore 3, .jsr 40]
  | 40 => [.goto_w 40]
  | 57 => [.iinc 3 1, .goto 40]
  | 63 => [.sipush (-1), .ireturn]
  | _ => []
theorem k_X12_apart : ∀ t, bok (mC 261) (mB 261) (mL 261) t (b_X12_apart t) = true := by
  intro t
  unfold b_X12_apart
  split
  all_goals first | decide +kernel | rfl
theorem e_X12_apart {d : Nat} {av : List AV} {σ : Mem} {K : Option AV → Mem → Prop} (hl : (entL av).length ≤ 4) (h : wp d 261 b_X12_apart K 400 (b_X12_apart 0) (ent 4 av) [] σ) : Ev (d + 1) 261 av σ K := Ev.enter (by decide) (by decide +kernel) hl (wp_ok k_X12_apart 400 _ 0 _ _ _ (k_X12_apart 0) h)
theorem r_X12_apart : mR 261 = (some .int) := by decide +kernel
def h_X12_apart_40 : List Instr := [.iload 3, .sipush 8, .if_icmp .gt 63, .aload 0, .iload 3, .invokeinterface 4092 1, .sipush (-1), .if_icmp .ne 57, .iload 3, .ireturn]
theorem l_X12_apart_40 {d : Nat} {ls st : List AV} {σ : Mem} {K : Option AV → Mem → Prop} (h : wp d 261 b_X12_apart K 400 h_X12_apart_40 ls st σ) : Rn (d + 1) 261 40 ls st σ K := wp_ok k_X12_apart 400 _ 40 _ _ _ (by decide +kernel) h
def b_X12_net (t : Nat) : List Instr := match t with
  | 0 => [.aload 0, .sipush 0, .putfield 768, .aload 0, .iload 1, .i2l, .invokeinterface 3260 1, .ifCond .eq 22, .aload 0, .iload 1, .invokeinterface 4220 1, .goto 25]
  | 22 => [.sipush (-99000002), .jsr 25]
  | 25 => [.ireturn]
  | _ => []
theorem k_X12_net : ∀ t, bok (mC 262) (mB 262) (mL 262) t (b_X12_net t) = true := by
  intro t
  unfold b_X12_net
  split
  all_goals first | decide +kernel | rfl
theorem e_X12_net {d : Nat} {av : List AV} {σ : Mem} {K : Option AV → Mem → Prop} (hl : (entL av).length ≤ 2) (h : wp d 262 b_X12_net K 400 (b_X12_net 0) (ent 2 av) [] σ) : Ev (d + 1) 262 av σ K := Ev.enter (by decide) (by decide +kernel) hl (wp_ok k_X12_net 400 _ 0 _ _ _ (k_X12_net 0) h)
theorem r_X12_net : mR 262 = (some .int) := by decide +kernel
def b_X12_netOf (t : Nat) : List Instr := match t with
  | 0 => [.aload 0, .iload 1, .invokeinterface 3116 1, .aload 0, .iload 1, .invokeinterface 3068 1, .isub, .ireturn]
  | _ => []
theorem k_X12_netOf : ∀ t, bok (mC 263) (mB 263) (mL 263) t (b_X12_netOf t) = true := by
  intro t
  unfold b_X12_netOf
  split
  all_goals first | decide +kernel | rfl
theorem e_X12_netOf {d : Nat} {av : List AV} {σ : Mem} {K : Option AV → Mem → Prop} (hl : (entL av).length ≤ 2) (h : wp d 263 b_X12_netOf K 400 (b_X12_netOf 0) (ent 2 av) [] σ) : Ev (d + 1) 263 av σ K := Ev.enter (by decide) (by decide +kernel) hl (wp_ok k_X12_netOf 400 _ 0 _ _ _ (k_X12_netOf 0) h)
theorem r_X12_netOf : mR 263 = (some .int) := by decide +kernel
def b_X12_coin (t : Nat) : List Instr := match t with
  | 0 => [.aload 0, .sipush 0, .putfield 768, .sipush 0, .istore 1, .sipush 0, .istore 2, .jsr 9]
  | 9 => [.goto_w 9]
  | 36 => [.sipush 0, .jsr 37]
  | 37 => [.iadd, .istore 1, .iinc 2 1, .goto 9]
  | 45 => [.iload 1, .ireturn]
  | _ => []
theorem k_X12_coin : ∀ t, bok (mC 264) (mB 264) (mL 264) t (b_X12_coin t) = true := by
  intro t
  unfold b_X12_coin
  split
  all_goals first | decide +kernel | rfl
theorem e_X12_coin {d : Nat} {av : List AV} {σ : Mem} {K : Option AV → Mem → Prop} (hl : (entL av).length ≤ 3) (h : wp d 264 b_X12_coin K 400 (b_X12_coin 0) (ent 3 av) [] σ) : Ev (d + 1) 264 av σ K := Ev.enter (by decide) (by decide +kernel) hl (wp_ok k_X12_coin 400 _ 0 _ _ _ (k_X12_coin 0) h)
theorem r_X12_coin : mR 264 = (some .int) := by decide +kernel
def h_X12_coin_9 : List Instr := [.iload 2, .aload 0, .checkcast 1576336, .sipush 2, .iaload, .if_icmp .ge 45, .iload 1, .aload 0, .iload 2, .invokeinterface 4220 1, .ifCond .le 36, .aload 0, .iload 2, .invokeinterface 4220 1, .goto 37]
theorem l_X12_coin_9 {d : Nat} {ls st : List AV} {σ : Mem} {K : Option AV → Mem → Prop} (h : wp d 264 b_X12_coin K 400 h_X12_coin_9 ls st σ) : Rn (d + 1) 264 9 ls st σ K := wp_ok k_X12_coin 400 _ 9 _ _ _ (by decide +kernel) h
def b_X12_settles (t : Nat) : List Instr := match t with
  | 0 => [.aload 0, .sipush 0, .putfield 768, .sipush 0, .istore 1, .sipush 0, .istore 2, .jsr 9]
  | 9 => [.goto_w 9]
  | 34 => [.sipush 0, .jsr 35]
  | 35 => [.ior, .istore 1, .iinc 2 1, .goto 9]
  | 43 => [.iload 1, .multianewarray 253 1, .aload 0, .iload 1, .invokeinterface 4268 1, .isub, .ireturn]
  | _ => []
theorem k_X12_settles : ∀ t, bok (mC 265) (mB 265) (mL 265) t (b_X12_settles t) = true := by
  intro t
  unfold b_X12_settles
  split
  all_goals first | decide +kernel | rfl
theorem e_X12_settles {d : Nat} {av : List AV} {σ : Mem} {K : Option AV → Mem → Prop} (hl : (entL av).length ≤ 3) (h : wp d 265 b_X12_settles K 400 (b_X12_settles 0) (ent 3 av) [] σ) : Ev (d + 1) 265 av σ K := Ev.enter (by decide) (by decide +kernel) hl (wp_ok k_X12_settles 400 _ 0 _ _ _ (k_X12_settles 0) h)
theorem r_X12_settles : mR 265 = (some .int) := by decide +kernel
def h_X12_settles_9 : List Instr := [.iload 2, .aload 0, .checkcast 1576336, .sipush 2, .iaload, .if_icmp .ge 43, .iload 1, .aload 0, .iload 2, .invokeinterface 4220 1, .ifCond .eq 34, .sipush 1, .iload 2, .ishl, .goto 35]
theorem l_X12_settles_9 {d : Nat} {ls st : List AV} {σ : Mem} {K : Option AV → Mem → Prop} (h : wp d 265 b_X12_settles K 400 h_X12_settles_9 ls st σ) : Rn (d + 1) 265 9 ls st σ K := wp_ok k_X12_settles 400 _ 9 _ _ _ (by decide +kernel) h
def b_X12_groups (t : Nat) : List Instr := match t with
  | 0 => [.sipush 0, .istore 2, .sipush 1, .istore 3, .jsr 4]
  | 4 => [.goto_w 4]
  | 28 => [.sipush 1, .aload 0, .iload 1, .iload 3, .sipush (-1), .ixor, .iand, .invokeinterface 4268 1, .iadd, .istore 4, .iload 4, .iload 2, .if_icmp .le 52, .iload 4, .goto 53]
  | 52 => [.iload 2, .jsr 53]
  | 53 => [.istore 2, .jsr 54]
  | 54 => [.iinc 3 1, .goto 4]
  | 60 => [.iload 2, .ireturn]
  | _ => []
theorem k_X12_groups : ∀ t, bok (mC 266) (mB 266) (mL 266) t (b_X12_groups t) = true := by
  intro t
  unfold b_X12_groups
  split
  all_goals first | decide +kernel | rfl
theorem e_X12_groups {d : Nat} {av : List AV} {σ : Mem} {K : Option AV → Mem → Prop} (hl : (entL av).length ≤ 5) (h : wp d 266 b_X12_groups K 400 (b_X12_groups 0) (ent 5 av) [] σ) : Ev (d + 1) 266 av σ K := Ev.enter (by decide) (by decide +kernel) hl (wp_ok k_X12_groups 400 _ 0 _ _ _ (k_X12_groups 0) h)
theorem r_X12_groups : mR 266 = (some .int) := by decide +kernel
def h_X12_groups_4 : List Instr := [.iload 3, .iload 1, .if_icmp .gt 60, .iload 3, .iload 1, .sipush (-1), .ixor, .iand, .ifCond .ne 54, .aload 0, .iload 3, .invokeinterface 4284 1, .ifCond .eq 28, .goto 54]
theorem l_X12_groups_4 {d : Nat} {ls st : List AV} {σ : Mem} {K : Option AV → Mem → Prop} (h : wp d 266 b_X12_groups K 400 h_X12_groups_4 ls st σ) : Rn (d + 1) 266 4 ls st σ K := wp_ok k_X12_groups 400 _ 4 _ _ _ (by decide +kernel) h
def b_X12_sumOf (t : Nat) : List Instr := match t with
  | 0 => [.sipush 0, .istore 2, .sipush 0, .istore 3, .jsr 4]
  | 4 => [.goto_w 4]
  | 32 => [.sipush 0, .jsr 33]
  | 33 => [.iadd, .istore 2, .iinc 3 1, .goto 4]
  | 41 => [.iload 2, .ireturn]
  | _ => []
theorem k_X12_sumOf : ∀ t, bok (mC 267) (mB 267) (mL 267) t (b_X12_sumOf t) = true := by
  intro t
  unfold b_X12_sumOf
  split
  all_goals first | decide +kernel | rfl
theorem e_X12_sumOf {d : Nat} {av : List AV} {σ : Mem} {K : Option AV → Mem → Prop} (hl : (entL av).length ≤ 4) (h : wp d 267 b_X12_sumOf K 400 (b_X12_sumOf 0) (ent 4 av) [] σ) : Ev (d + 1) 267 av σ K := Ev.enter (by decide) (by decide +kernel) hl (wp_ok k_X12_sumOf 400 _ 0 _ _ _ (k_X12_sumOf 0) h)
theorem r_X12_sumOf : mR 267 = (some .int) := by decide +kernel
def h_X12_sumOf_4 : List Instr := [.iload 3, .aload 0, .checkcast 1576336, .sipush 2, .iaload, .if_icmp .ge 41, .iload 2, .iload 1, .i2l, .iload 3, .multianewarray 198 2, .ifCond .eq 32, .aload 0, .iload 3, .invokeinterface 4220 1, .goto 33]
theorem l_X12_sumOf_4 {d : Nat} {ls st : List AV} {σ : Mem} {K : Option AV → Mem → Prop} (h : wp d 267 b_X12_sumOf K 400 h_X12_sumOf_4 ls st σ) : Rn (d + 1) 267 4 ls st σ K := wp_ok k_X12_sumOf 400 _ 4 _ _ _ (by decide +kernel) h
def b_X12_rings (t : Nat) : List Instr := match t with
  | 0 => [.aload 0, .sipush 0, .putfield 768, .aload 0, .invokeinterface 4316 0, .aload 0, .getfield 794, .ireturn]
  | _ => []
theorem k_X12_rings : ∀ t, bok (mC 268) (mB 268) (mL 268) t (b_X12_rings t) = true := by
  intro t
  unfold b_X12_rings
  split
  all_goals first | decide +kernel | rfl
theorem e_X12_rings {d : Nat} {av : List AV} {σ : Mem} {K : Option AV → Mem → Prop} (hl : (entL av).length ≤ 1) (h : wp d 268 b_X12_rings K 400 (b_X12_rings 0) (ent 1 av) [] σ) : Ev (d + 1) 268 av σ K := Ev.enter (by decide) (by decide +kernel) hl (wp_ok k_X12_rings 400 _ 0 _ _ _ (k_X12_rings 0) h)
theorem r_X12_rings : mR 268 = (some .int) := by decide +kernel
def b_X12_laysRings (t : Nat) : List Instr := match t with
  | 0 => [.aload 0, .sipush 0, .putfield 794, .aload 0, .sipush 0, .putfield 796, .aload 0, .sipush 0, .putfield 795, .sipush 0, .istore 1, .jsr 17]
  | 17 => [.goto_w 17]
  | 52 => [.return_]
  | _ => []
theorem k_X12_laysRings : ∀ t, bok (mC 269) (mB 269) (mL 269) t (b_X12_laysRings t) = true := by
  intro t
  unfold b_X12_laysRings
  split
  all_goals first | decide +kernel | rfl
theorem e_X12_laysRings {d : Nat} {av : List AV} {σ : Mem} {K : Option AV → Mem → Prop} (hl : (entL av).length ≤ 2) (h : wp d 269 b_X12_laysRings K 400 (b_X12_laysRings 0) (ent 2 av) [] σ) : Ev (d + 1) 269 av σ K := Ev.enter (by decide) (by decide +kernel) hl (wp_ok k_X12_laysRings 400 _ 0 _ _ _ (k_X12_laysRings 0) h)
theorem r_X12_laysRings : mR 269 = none := by decide +kernel
def h_X12_laysRings_17 : List Instr := [.iload 1, .aload 0, .checkcast 1576336, .sipush 2, .iaload, .if_icmp .ge 52, .aload 0, .checkcast 1615504, .sipush 0, .iload 1, .iastore, .aload 0, .sipush 1, .putfield 789, .aload 0, .sipush 1, .iload 1, .ishl, .invokeinterface 4332 1, .iinc 1 1, .goto 17]
theorem l_X12_laysRings_17 {d : Nat} {ls st : List AV} {σ : Mem} {K : Option AV → Mem → Prop} (h : wp d 269 b_X12_laysRings K 400 h_X12_laysRings_17 ls st σ) : Rn (d + 1) 269 17 ls st σ K := wp_ok k_X12_laysRings 400 _ 17 _ _ _ (by decide +kernel) h
def b_X12_goesRing (t : Nat) : List Instr := match t with
  | 0 => [.aload 0, .checkcast 1615504, .sipush 0, .iaload, .istore 2, .aload 0, .checkcast 1615504, .aload 0, .getfield 789, .sipush 1, .isub, .iaload, .istore 3, .aload 0, .getfield 789, .sipush 1, .if_icmp .le 40, .aload 0, .iload 3, .iload 2, .invokeinterface 3084 2, .ifCond .le 40, .aload 0, .invokeinterface 4348 0, .jsr 40]
  | 40 => [.iload 2, .sipush 1, .iadd, .istore 4, .jsr 45]
  | 45 => [.goto_w 45]
  | 79 => [.aload 0, .checkcast 1615504, .aload 0, .getfield 789, .iload 4, .iastore, .aload 0, .dup, .getfield 789, .sipush 1, .iadd, .putfield 789, .aload 0, .iload 1, .sipush 1, .iload 4, .ishl, .ior, .invokeinterface 4332 1, .aload 0, .dup, .getfield 789, .sipush 1, .isub, .putfield 789, .jsr 120]
  | 120 => [.iinc 4 1, .goto 45]
  | 126 => [.return_]
  | _ => []
theorem k_X12_goesRing : ∀ t, bok (mC 270) (mB 270) (mL 270) t (b_X12_goesRing t) = true := by
  intro t
  unfold b_X12_goesRing
  split
  all_goals first | decide +kernel | rfl
theorem e_X12_goesRing {d : Nat} {av : List AV} {σ : Mem} {K : Option AV → Mem → Prop} (hl : (entL av).length ≤ 5) (h : wp d 270 b_X12_goesRing K 400 (b_X12_goesRing 0) (ent 5 av) [] σ) : Ev (d + 1) 270 av σ K := Ev.enter (by decide) (by decide +kernel) hl (wp_ok k_X12_goesRing 400 _ 0 _ _ _ (k_X12_goesRing 0) h)
theorem r_X12_goesRing : mR 270 = none := by decide +kernel
def h_X12_goesRing_45 : List Instr := [.iload 4, .aload 0, .checkcast 1576336, .sipush 2, .iaload, .if_icmp .ge 126, .iload 1, .i2l, .iload 4, .multianewarray 198 2, .ifCond .ne 120, .aload 0, .iload 3, .iload 4, .invokeinterface 3084 2, .ifCond .ne 79, .goto 120]
theorem l_X12_goesRing_45 {d : Nat} {ls st : List AV} {σ : Mem} {K : Option AV → Mem → Prop} (h : wp d 270 b_X12_goesRing K 400 h_X12_goesRing_45 ls st σ) : Rn (d + 1) 270 45 ls st σ K := wp_ok k_X12_goesRing 400 _ 45 _ _ _ (by decide +kernel) h
def b_X12_laysRing (t : Nat) : List Instr := match t with
  | 0 => [.aload 0, .dup, .getfield 794, .sipush 1, .iadd, .putfield 794, .aload 0, .invokeinterface 3676 0, .aload 0, .getfield 789, .imul, .istore 1, .iload 1, .aload 0, .getfield 796, .if_icmp .gt 29, .return_]
  | 29 => [.aload 0, .iload 1, .putfield 796, .aload 0, .aload 0, .getfield 789, .putfield 795, .sipush 0, .istore 2, .jsr 44]
  | 44 => [.goto_w 44]
  | 70 => [.return_]
  | _ => []
theorem k_X12_laysRing : ∀ t, bok (mC 271) (mB 271) (mL 271) t (b_X12_laysRing t) = true := by
  intro t
  unfold b_X12_laysRing
  split
  all_goals first | decide +kernel | rfl
theorem e_X12_laysRing {d : Nat} {av : List AV} {σ : Mem} {K : Option AV → Mem → Prop} (hl : (entL av).length ≤ 3) (h : wp d 271 b_X12_laysRing K 400 (b_X12_laysRing 0) (ent 3 av) [] σ) : Ev (d + 1) 271 av σ K := Ev.enter (by decide) (by decide +kernel) hl (wp_ok k_X12_laysRing 400 _ 0 _ _ _ (k_X12_laysRing 0) h)
theorem r_X12_laysRing : mR 271 = none := by decide +kernel
def h_X12_laysRing_44 : List Instr := [.iload 2, .aload 0, .getfield 789, .if_icmp .ge 70, .aload 0, .checkcast 1625808, .iload 2, .aload 0, .checkcast 1615504, .iload 2, .iaload, .iastore, .iinc 2 1, .goto 44]
theorem l_X12_laysRing_44 {d : Nat} {ls st : List AV} {σ : Mem} {K : Option AV → Mem → Prop} (h : wp d 271 b_X12_laysRing K 400 h_X12_laysRing_44 ls st σ) : Rn (d + 1) 271 44 ls st σ K := wp_ok k_X12_laysRing 400 _ 44 _ _ _ (by decide +kernel) h
def b_X12_ring (t : Nat) : List Instr := match t with
  | 0 => [.aload 0, .sipush 0, .putfield 768, .iload 1, .i2l, .jsr_w 0, .jsr_w 1, .multianewarray 162 3, .ifCond .ne 32, .iload 1, .i2l, .jsr_w 10, .jsr_w 15, .multianewarray 162 3, .ifCond .ne 32, .sipush (-2), .ireturn]
  | 32 => [.aload 0, .invokeinterface 4316 0, .aload 0, .getfield 794, .ifCond .ne 45, .sipush (-1), .ireturn]
  | 45 => [.iload 1, .ifCond .ne 56, .aload 0, .getfield 796, .goto 92]
  | 56 => [.iload 1, .sipush 1, .if_icmp .ne 68, .aload 0, .getfield 795, .goto 92]
  | 68 => [.iload 1, .sipush 10, .isub, .aload 0, .getfield 795, .if_icmp .ge 91, .aload 0, .checkcast 1625808, .iload 1, .sipush 10, .isub, .iaload, .goto 92]
  | 91 => [.sipush (-1), .jsr 92]
  | 92 => [.ireturn]
  | _ => []
theorem k_X12_ring : ∀ t, bok (mC 272) (mB 272) (mL 272) t (b_X12_ring t) = true := by
  intro t
  unfold b_X12_ring
  split
  all_goals first | decide +kernel | rfl
theorem e_X12_ring {d : Nat} {av : List AV} {σ : Mem} {K : Option AV → Mem → Prop} (hl : (entL av).length ≤ 2) (h : wp d 272 b_X12_ring K 400 (b_X12_ring 0) (ent 2 av) [] σ) : Ev (d + 1) 272 av σ K := Ev.enter (by decide) (by decide +kernel) hl (wp_ok k_X12_ring 400 _ 0 _ _ _ (k_X12_ring 0) h)
theorem r_X12_ring : mR 272 = (some .int) := by decide +kernel
def b_X12_heaviest (t : Nat) : List Instr := match t with
  | 0 => [.aload 0, .sipush 0, .putfield 768, .sipush (-1), .istore 1, .sipush 0, .istore 2, .jsr 9]
  | 9 => [.goto_w 9]
  | 37 => [.iload 2, .istore 1, .jsr 39]
  | 39 => [.iinc 2 1, .goto 9]
  | 45 => [.iload 1, .ireturn]
  | _ => []
theorem k_X12_heaviest : ∀ t, bok (mC 273) (mB 273) (mL 273) t (b_X12_heaviest t) = true := by
  intro t
  unfold b_X12_heaviest
  split
  all_goals first | decide +kernel | rfl
theorem e_X12_heaviest {d : Nat} {av : List AV} {σ : Mem} {K : Option AV → Mem → Prop} (hl : (entL av).length ≤ 3) (h : wp d 273 b_X12_heaviest K 400 (b_X12_heaviest 0) (ent 3 av) [] σ) : Ev (d + 1) 273 av σ K := Ev.enter (by decide) (by decide +kernel) hl (wp_ok k_X12_heaviest 400 _ 0 _ _ _ (k_X12_heaviest 0) h)
theorem r_X12_heaviest : mR 273 = (some .int) := by decide +kernel
def h_X12_heaviest_9 : List Instr := [.iload 2, .aload 0, .checkcast 1576336, .sipush 2, .iaload, .if_icmp .ge 45, .iload 1, .sipush (-1), .if_icmp .eq 37, .aload 0, .iload 2, .invokeinterface 3052 1, .aload 0, .iload 1, .invokeinterface 3052 1, .if_icmp .le 39, .jsr 37]
theorem l_X12_heaviest_9 {d : Nat} {ls st : List AV} {σ : Mem} {K : Option AV → Mem → Prop} (h : wp d 273 b_X12_heaviest K 400 h_X12_heaviest_9 ls st σ) : Rn (d + 1) 273 9 ls st σ K := wp_ok k_X12_heaviest 400 _ 9 _ _ _ (by decide +kernel) h
def b_X12_forgive (t : Nat) : List Instr := match t with
  | 0 => [.aload 0, .sipush 0, .putfield 768, .sipush (-1), .istore 1, .aload 0, .invokeinterface 4028 0, .multianewarray 253 1, .istore 2, .sipush 0, .istore 3, .jsr 17]
  | 17 => [.goto_w 17]
  | 43 => [.aload 0, .iload 3, .sipush 10, .idiv, .iload 3, .sipush 10, .irem, .invokeinterface 3084 2, .istore 4, .aload 0, .checkcast 1576336, .sipush 36, .sipush 6, .iload 3, .sipush 10, .idiv, .imul, .iadd, .iload 3, .sipush 10, .irem, .iadd, .sipush 0, .iastore, .aload 0, .invokeinterface 4028 0, .multianewarray 253 1, .istore 5, .aload 0, .checkcast 1576336, .sipush 36, .sipush 6, .iload 3, .sipush 10, .idiv, .imul, .iadd, .iload 3, .sipush 10, .irem, .iadd, .iload 4, .iastore, .iload 5, .iload 2, .if_icmp .gt 118, .goto 123]
  | 118 => [.iload 3, .istore 1, .iload 5, .istore 2, .jsr 123]
  | 123 => [.iinc 3 1, .goto 17]
  | 129 => [.iload 1, .ireturn]
  | _ => []
theorem k_X12_forgive : ∀ t, bok (mC 274) (mB 274) (mL 274) t (b_X12_forgive t) = true := by
  intro t
  unfold b_X12_forgive
  split
  all_goals first | decide +kernel | rfl
theorem e_X12_forgive {d : Nat} {av : List AV} {σ : Mem} {K : Option AV → Mem → Prop} (hl : (entL av).length ≤ 6) (h : wp d 274 b_X12_forgive K 400 (b_X12_forgive 0) (ent 6 av) [] σ) : Ev (d + 1) 274 av σ K := Ev.enter (by decide) (by decide +kernel) hl (wp_ok k_X12_forgive 400 _ 0 _ _ _ (k_X12_forgive 0) h)
theorem r_X12_forgive : mR 274 = (some .int) := by decide +kernel
def h_X12_forgive_17 : List Instr := [.iload 3, .sipush 60, .if_icmp .ge 129, .aload 0, .iload 3, .sipush 10, .idiv, .i2l, .iload 3, .sipush 10, .irem, .i2l, .invokeinterface 3596 2, .ifCond .eq 43, .goto 123]
theorem l_X12_forgive_17 {d : Nat} {ls st : List AV} {σ : Mem} {K : Option AV → Mem → Prop} (h : wp d 274 b_X12_forgive K 400 h_X12_forgive_17 ls st σ) : Rn (d + 1) 274 17 ls st σ K := wp_ok k_X12_forgive 400 _ 17 _ _ _ (by decide +kernel) h
def b_X12_mends (t : Nat) : List Instr := match t with
  | 0 => [.aload 0, .sipush 0, .putfield 768, .aload 0, .iload 1, .i2l, .invokeinterface 3260 1, .ifCond .eq 22, .aload 0, .iload 1, .invokeinterface 4428 1, .goto 24]
  | 22 => [.sipush (-2), .jsr 24]
  | 24 => [.ireturn]
  | _ => []
theorem k_X12_mends : ∀ t, bok (mC 275) (mB 275) (mL 275) t (b_X12_mends t) = true := by
  intro t
  unfold b_X12_mends
  split
  all_goals first | decide +kernel | rfl
theorem e_X12_mends {d : Nat} {av : List AV} {σ : Mem} {K : Option AV → Mem → Prop} (hl : (entL av).length ≤ 2) (h : wp d 275 b_X12_mends K 400 (b_X12_mends 0) (ent 2 av) [] σ) : Ev (d + 1) 275 av σ K := Ev.enter (by decide) (by decide +kernel) hl (wp_ok k_X12_mends 400 _ 0 _ _ _ (k_X12_mends 0) h)
theorem r_X12_mends : mR 275 = (some .int) := by decide +kernel
def b_X12_needsAll (t : Nat) : List Instr := match t with
  | 0 => [.sipush 0, .istore 2, .sipush 0, .istore 3, .jsr 4]
  | 4 => [.goto_w 4]
  | 28 => [.iload 2, .aload 0, .iload 1, .iload 3, .invokeinterface 4444 2, .iadd, .istore 2, .iinc 3 1, .goto 4]
  | 43 => [.iload 2, .ireturn]
  | _ => []
theorem k_X12_needsAll : ∀ t, bok (mC 276) (mB 276) (mL 276) t (b_X12_needsAll t) = true := by
  intro t
  unfold b_X12_needsAll
  split
  all_goals first | decide +kernel | rfl
theorem e_X12_needsAll {d : Nat} {av : List AV} {σ : Mem} {K : Option AV → Mem → Prop} (hl : (entL av).length ≤ 4) (h : wp d 276 b_X12_needsAll K 400 (b_X12_needsAll 0) (ent 4 av) [] σ) : Ev (d + 1) 276 av σ K := Ev.enter (by decide) (by decide +kernel) hl (wp_ok k_X12_needsAll 400 _ 0 _ _ _ (k_X12_needsAll 0) h)
theorem r_X12_needsAll : mR 276 = (some .int) := by decide +kernel
def h_X12_needsAll_4 : List Instr := [.iload 3, .aload 0, .checkcast 1576336, .sipush 1, .iaload, .if_icmp .ge 43, .aload 0, .iload 1, .iload 3, .invokeinterface 4444 2, .sipush 268435456, .if_icmp .ne 28, .sipush (-1), .ireturn]
theorem l_X12_needsAll_4 {d : Nat} {ls st : List AV} {σ : Mem} {K : Option AV → Mem → Prop} (h : wp d 276 b_X12_needsAll K 400 h_X12_needsAll_4 ls st σ) : Rn (d + 1) 276 4 ls st σ K := wp_ok k_X12_needsAll 400 _ 4 _ _ _ (by decide +kernel) h
def b_X12_needs (t : Nat) : List Instr := match t with
  | 0 => [.aload 0, .iload 1, .iload 2, .sipush 0, .invokeinterface 3468 3, .ifCond .ne 14, .sipush 268435456, .ireturn]
  | 14 => [.aload 0, .iload 1, .invokeinterface 3052 1, .aload 0, .iload 2, .invokeinterface 3212 1, .isub, .istore 3, .iload 3, .ifCond .le 40, .iload 3, .sipush 9, .iadd, .sipush 10, .idiv, .goto 41]
  | 40 => [.sipush 0, .jsr 41]
  | 41 => [.istore 4, .aload 0, .checkcast 1576336, .sipush 22, .iload 2, .iadd, .iaload, .iload 4, .iadd, .sipush 99, .if_icmp .le 66, .sipush 268435456, .goto 89]
  | 66 => [.iload 4, .aload 0, .checkcast 1576336, .sipush 21, .iaload, .i2l, .iload 2, .multianewarray 198 2, .ifCond .eq 87, .sipush 1, .goto 88]
  | 87 => [.sipush 0, .jsr 88]
  | 88 => [.iadd, .jsr 89]
  | 89 => [.ireturn]
  | _ => []
theorem k_X12_needs : ∀ t, bok (mC 277) (mB 277) (mL 277) t (b_X12_needs t) = true := by
  intro t
  unfold b_X12_needs
  split
  all_goals first | decide +kernel | rfl
theorem e_X12_needs {d : Nat} {av : List AV} {σ : Mem} {K : Option AV → Mem → Prop} (hl : (entL av).length ≤ 5) (h : wp d 277 b_X12_needs K 400 (b_X12_needs 0) (ent 5 av) [] σ) : Ev (d + 1) 277 av σ K := Ev.enter (by decide) (by decide +kernel) hl (wp_ok k_X12_needs 400 _ 0 _ _ _ (k_X12_needs 0) h)
theorem r_X12_needs : mR 277 = (some .int) := by decide +kernel
def b_X12_mendsAt (t : Nat) : List Instr := match t with
  | 0 => [.aload 0, .sipush 0, .putfield 768, .aload 0, .iload 1, .i2l, .invokeinterface 3260 1, .ifCond .eq 23, .aload 0, .iload 2, .i2l, .invokeinterface 3308 1, .ifCond .ne 26, .jsr 23]
  | 23 => [.sipush (-2), .ireturn]
  | 26 => [.aload 0, .iload 1, .invokeinterface 4428 1, .sipush (-1), .if_icmp .ne 39, .sipush (-1), .goto 45]
  | 39 => [.aload 0, .iload 1, .iload 2, .invokeinterface 4444 2, .jsr 45]
  | 45 => [.ireturn]
  | _ => []
theorem k_X12_mendsAt : ∀ t, bok (mC 278) (mB 278) (mL 278) t (b_X12_mendsAt t) = true := by
  intro t
  unfold b_X12_mendsAt
  split
  all_goals first | decide +kernel | rfl
theorem e_X12_mendsAt {d : Nat} {av : List AV} {σ : Mem} {K : Option AV → Mem → Prop} (hl : (entL av).length ≤ 3) (h : wp d 278 b_X12_mendsAt K 400 (b_X12_mendsAt 0) (ent 3 av) [] σ) : Ev (d + 1) 278 av σ K := Ev.enter (by decide) (by decide +kernel) hl (wp_ok k_X12_mendsAt 400 _ 0 _ _ _ (k_X12_mendsAt 0) h)
theorem r_X12_mendsAt : mR 278 = (some .int) := by decide +kernel
def b_X12_mendsAll (t : Nat) : List Instr := match t with
  | 0 => [.aload 0, .sipush 0, .putfield 768, .sipush 0, .istore 1, .sipush 0, .istore 2, .jsr 9]
  | 9 => [.goto_w 9]
  | 24 => [.goto_w 24]
  | 56 => [.iload 3, .jsr 57]
  | 57 => [.istore 3, .iinc 4 1, .goto 24]
  | 64 => [.iload 3, .sipush 268435456, .if_icmp .ne 73, .sipush (-1), .ireturn]
  | 73 => [.iload 1, .iload 3, .iadd, .istore 1, .iinc 2 1, .goto 9]
  | 83 => [.iload 1, .ireturn]
  | _ => []
theorem k_X12_mendsAll : ∀ t, bok (mC 279) (mB 279) (mL 279) t (b_X12_mendsAll t) = true := by
  intro t
  unfold b_X12_mendsAll
  split
  all_goals first | decide +kernel | rfl
theorem e_X12_mendsAll {d : Nat} {av : List AV} {σ : Mem} {K : Option AV → Mem → Prop} (hl : (entL av).length ≤ 5) (h : wp d 279 b_X12_mendsAll K 400 (b_X12_mendsAll 0) (ent 5 av) [] σ) : Ev (d + 1) 279 av σ K := Ev.enter (by decide) (by decide +kernel) hl (wp_ok k_X12_mendsAll 400 _ 0 _ _ _ (k_X12_mendsAll 0) h)
theorem r_X12_mendsAll : mR 279 = (some .int) := by decide +kernel
def h_X12_mendsAll_9 : List Instr := [.iload 2, .aload 0, .checkcast 1576336, .sipush 1, .iaload, .if_icmp .ge 83, .sipush 0, .istore 3, .sipush 0, .istore 4, .jsr 24]
theorem l_X12_mendsAll_9 {d : Nat} {ls st : List AV} {σ : Mem} {K : Option AV → Mem → Prop} (h : wp d 279 b_X12_mendsAll K 400 h_X12_mendsAll_9 ls st σ) : Rn (d + 1) 279 9 ls st σ K := wp_ok k_X12_mendsAll 400 _ 9 _ _ _ (by decide +kernel) h
def h_X12_mendsAll_24 : List Instr := [.iload 4, .aload 0, .checkcast 1576336, .sipush 2, .iaload, .if_icmp .ge 64, .aload 0, .iload 4, .iload 2, .invokeinterface 4444 2, .iload 3, .if_icmp .le 56, .aload 0, .iload 4, .iload 2, .invokeinterface 4444 2, .goto 57]
theorem l_X12_mendsAll_24 {d : Nat} {ls st : List AV} {σ : Mem} {K : Option AV → Mem → Prop} (h : wp d 279 b_X12_mendsAll K 400 h_X12_mendsAll_24 ls st σ) : Rn (d + 1) 279 24 ls st σ K := wp_ok k_X12_mendsAll 400 _ 24 _ _ _ (by decide +kernel) h
def b_X12_torn (t : Nat) : List Instr := match t with
  | 0 => [.aload 0, .sipush 0, .putfield 768, .aload 0, .iload 1, .invokeinterface 4508 1, .istore 2, .iload 2, .ifCond .eq 17, .iload 2, .ireturn]
  | 17 => [.sipush 0, .istore 3, .sipush 0, .istore 4, .jsr 22]
  | 22 => [.goto_w 22]
  | 44 => [.sipush 0, .jsr 45]
  | 45 => [.iadd, .istore 3, .iinc 4 1, .goto 22]
  | 53 => [.iload 3, .ireturn]
  | _ => []
theorem k_X12_torn : ∀ t, bok (mC 280) (mB 280) (mL 280) t (b_X12_torn t) = true := by
  intro t
  unfold b_X12_torn
  split
  all_goals first | decide +kernel | rfl
theorem e_X12_torn {d : Nat} {av : List AV} {σ : Mem} {K : Option AV → Mem → Prop} (hl : (entL av).length ≤ 5) (h : wp d 280 b_X12_torn K 400 (b_X12_torn 0) (ent 5 av) [] σ) : Ev (d + 1) 280 av σ K := Ev.enter (by decide) (by decide +kernel) hl (wp_ok k_X12_torn 400 _ 0 _ _ _ (k_X12_torn 0) h)
theorem r_X12_torn : mR 280 = (some .int) := by decide +kernel
def h_X12_torn_22 : List Instr := [.iload 4, .sipush 60, .if_icmp .ge 53, .iload 3, .aload 0, .iload 1, .iload 4, .invokeinterface 4524 2, .ifCond .eq 44, .sipush 1, .goto 45]
theorem l_X12_torn_22 {d : Nat} {ls st : List AV} {σ : Mem} {K : Option AV → Mem → Prop} (h : wp d 280 b_X12_torn K 400 h_X12_torn_22 ls st σ) : Rn (d + 1) 280 22 ls st σ K := wp_ok k_X12_torn 400 _ 22 _ _ _ (by decide +kernel) h
def b_X12_noSeen (t : Nat) : List Instr := match t with
  | 0 => [.aload 0, .iload 1, .invokeinterface 3644 1, .istore 2, .iload 2, .ifCond .eq 14, .iload 2, .goto 35]
  | 14 => [.aload 0, .checkcast 1638192, .iload 1, .iaload, .aload 0, .checkcast 1576336, .sipush 2, .iaload, .if_icmp .ne 33, .sipush 0, .goto 35]
  | 33 => [.sipush (-4), .jsr 35]
  | 35 => [.ireturn]
  | _ => []
theorem k_X12_noSeen : ∀ t, bok (mC 281) (mB 281) (mL 281) t (b_X12_noSeen t) = true := by
  intro t
  unfold b_X12_noSeen
  split
  all_goals first | decide +kernel | rfl
theorem e_X12_noSeen {d : Nat} {av : List AV} {σ : Mem} {K : Option AV → Mem → Prop} (hl : (entL av).length ≤ 3) (h : wp d 281 b_X12_noSeen K 400 (b_X12_noSeen 0) (ent 3 av) [] σ) : Ev (d + 1) 281 av σ K := Ev.enter (by decide) (by decide +kernel) hl (wp_ok k_X12_noSeen 400 _ 0 _ _ _ (k_X12_noSeen 0) h)
theorem r_X12_noSeen : mR 281 = (some .int) := by decide +kernel
def b_X12_fits (t : Nat) : List Instr := match t with
  | 0 => [.aload 0, .iload 2, .sipush 10, .idiv, .i2l, .iload 2, .sipush 10, .irem, .i2l, .invokeinterface 3596 2, .ifCond .eq 19, .sipush 0, .ireturn]
  | 19 => [.aload 0, .iload 2, .sipush 10, .idiv, .iload 2, .sipush 10, .irem, .invokeinterface 3084 2, .istore 3, .aload 0, .checkcast 1576336, .sipush 36, .sipush 6, .iload 2, .sipush 10, .idiv, .imul, .iadd, .iload 2, .sipush 10, .irem, .iadd, .sipush 0, .iastore, .sipush 1, .istore 4, .sipush 0, .istore 5, .jsr 59]
  | 59 => [.goto_w 59]
  | 132 => [.sipush 1, .goto 137]
  | 136 => [.sipush 0, .jsr 137]
  | 137 => [.iand, .istore 4, .iinc 5 1, .goto 59]
  | 146 => [.aload 0, .checkcast 1576336, .sipush 36, .sipush 6, .iload 2, .sipush 10, .idiv, .imul, .iadd, .iload 2, .sipush 10, .irem, .iadd, .iload 3, .iastore, .iload 4, .ireturn]
  | _ => []
theorem k_X12_fits : ∀ t, bok (mC 282) (mB 282) (mL 282) t (b_X12_fits t) = true := by
  intro t
  unfold b_X12_fits
  split
  all_goals first | decide +kernel | rfl
theorem e_X12_fits {d : Nat} {av : List AV} {σ : Mem} {K : Option AV → Mem → Prop} (hl : (entL av).length ≤ 8) (h : wp d 282 b_X12_fits K 400 (b_X12_fits 0) (ent 8 av) [] σ) : Ev (d + 1) 282 av σ K := Ev.enter (by decide) (by decide +kernel) hl (wp_ok k_X12_fits 400 _ 0 _ _ _ (k_X12_fits 0) h)
theorem r_X12_fits : mR 282 = (some .boolean) := by decide +kernel
def h_X12_fits_59 : List Instr := [.iload 5, .aload 0, .checkcast 1576336, .sipush 2, .iaload, .if_icmp .ge 146, .aload 0, .checkcast 1634032, .sipush 6, .iload 2, .imul, .iload 5, .iadd, .aload 0, .iload 5, .invokeinterface 3052 1, .iastore, .aload 0, .checkcast 1640272, .sipush 40, .iload 1, .imul, .iload 5, .iadd, .laload, .lstore 6, .iload 4, .lload 6, .jsr_w (-1), .lcmp, .ifCond .eq 132, .lload 6, .aload 0, .checkcast 1634032, .sipush 6, .iload 2, .imul, .iload 5, .iadd, .iaload, .i2l, .lcmp, .ifCond .ne 136, .jsr 132]
theorem l_X12_fits_59 {d : Nat} {ls st : List AV} {σ : Mem} {K : Option AV → Mem → Prop} (h : wp d 282 b_X12_fits K 400 h_X12_fits_59 ls st σ) : Rn (d + 1) 282 59 ls st σ K := wp_ok k_X12_fits 400 _ 59 _ _ _ (by decide +kernel) h
def b_X12_tornAt (t : Nat) : List Instr := match t with
  | 0 => [.aload 0, .sipush 0, .putfield 768, .aload 0, .iload 1, .invokeinterface 4508 1, .istore 3, .iload 3, .ifCond .eq 17, .iload 3, .ireturn]
  | 17 => [.iload 2, .ifCond .ge 24, .sipush (-3), .ireturn]
  | 24 => [.iload 2, .istore 4, .sipush 0, .istore 5, .jsr 30]
  | 30 => [.goto_w 30]
  | 50 => [.iload 4, .ifCond .ne 58, .iload 5, .ireturn]
  | 58 => [.iinc 4 (-1), .jsr 61]
  | 61 => [.iinc 5 1, .goto 30]
  | 67 => [.sipush (-1), .ireturn]
  | _ => []
theorem k_X12_tornAt : ∀ t, bok (mC 283) (mB 283) (mL 283) t (b_X12_tornAt t) = true := by
  intro t
  unfold b_X12_tornAt
  split
  all_goals first | decide +kernel | rfl
theorem e_X12_tornAt {d : Nat} {av : List AV} {σ : Mem} {K : Option AV → Mem → Prop} (hl : (entL av).length ≤ 6) (h : wp d 283 b_X12_tornAt K 400 (b_X12_tornAt 0) (ent 6 av) [] σ) : Ev (d + 1) 283 av σ K := Ev.enter (by decide) (by decide +kernel) hl (wp_ok k_X12_tornAt 400 _ 0 _ _ _ (k_X12_tornAt 0) h)
theorem r_X12_tornAt : mR 283 = (some .int) := by decide +kernel
def h_X12_tornAt_30 : List Instr := [.iload 5, .sipush 60, .if_icmp .ge 67, .aload 0, .iload 1, .iload 5, .invokeinterface 4524 2, .ifCond .ne 50, .goto 61]
theorem l_X12_tornAt_30 {d : Nat} {ls st : List AV} {σ : Mem} {K : Option AV → Mem → Prop} (h : wp d 283 b_X12_tornAt K 400 h_X12_tornAt_30 ls st σ) : Rn (d + 1) 283 30 ls st σ K := wp_ok k_X12_tornAt 400 _ 30 _ _ _ (by decide +kernel) h
def b_X12_weighed (t : Nat) : List Instr := match t with
  | 0 => [.aload 0, .sipush 0, .putfield 768, .aload 0, .iload 1, .invokeinterface 4508 1, .istore 2, .iload 2, .ifCond .eq 17, .iload 2, .ireturn]
  | 17 => [.sipush (-1), .istore 3, .sipush 268435456, .istore 4, .jsr_w 0, .lstore 5, .sipush 0, .istore 7, .jsr 30]
  | 30 => [.goto_w 30]
  | 56 => [.jsr_w 0, .jsr 57]
  | 57 => [.lor, .lstore 5, .iinc 7 1, .goto 30]
  | 66 => [.sipush 0, .istore 7, .jsr 69]
  | 69 => [.goto_w 69]
  | 93 => [.goto_w 93]
  | 106 => [.goto_w 106]
  | 168 => [.sipush 0, .jsr 169]
  | 169 => [.iadd, .istore 10, .iinc 11 1, .goto 106]
  | 178 => [.iload 10, .iload 8, .if_icmp .le 190, .iload 10, .goto 192]
  | 190 => [.iload 8, .jsr 192]
  | 192 => [.istore 8, .iinc 9 1, .goto 93]
  | 200 => [.iload 8, .iload 4, .if_icmp .lt 210, .goto 217]
  | 210 => [.iload 7, .istore 3, .iload 8, .istore 4, .jsr 217]
  | 217 => [.iinc 7 1, .goto 69]
  | 223 => [.iload 3, .ireturn]
  | _ => []
theorem k_X12_weighed : ∀ t, bok (mC 284) (mB 284) (mL 284) t (b_X12_weighed t) = true := by
  intro t
  unfold b_X12_weighed
  split
  all_goals first | decide +kernel | rfl
theorem e_X12_weighed {d : Nat} {av : List AV} {σ : Mem} {K : Option AV → Mem → Prop} (hl : (entL av).length ≤ 12) (h : wp d 284 b_X12_weighed K 400 (b_X12_weighed 0) (ent 12 av) [] σ) : Ev (d + 1) 284 av σ K := Ev.enter (by decide) (by decide +kernel) hl (wp_ok k_X12_weighed 400 _ 0 _ _ _ (k_X12_weighed 0) h)
theorem r_X12_weighed : mR 284 = (some .int) := by decide +kernel
def h_X12_weighed_30 : List Instr := [.iload 7, .sipush 60, .if_icmp .ge 66, .lload 5, .aload 0, .iload 1, .iload 7, .invokeinterface 4524 2, .ifCond .eq 56, .jsr_w 1, .iload 7, .lshl, .goto 57]
theorem l_X12_weighed_30 {d : Nat} {ls st : List AV} {σ : Mem} {K : Option AV → Mem → Prop} (h : wp d 284 b_X12_weighed K 400 h_X12_weighed_30 ls st σ) : Rn (d + 1) 284 30 ls st σ K := wp_ok k_X12_weighed 400 _ 30 _ _ _ (by decide +kernel) h
def h_X12_weighed_69 : List Instr := [.iload 7, .aload 0, .checkcast 1576336, .sipush 2, .iaload, .if_icmp .ge 223, .lload 5, .jsr_w 0, .lcmp, .ifCond .eq 223, .sipush 0, .istore 8, .sipush 0, .istore 9, .jsr 93]
theorem l_X12_weighed_69 {d : Nat} {ls st : List AV} {σ : Mem} {K : Option AV → Mem → Prop} (h : wp d 284 b_X12_weighed K 400 h_X12_weighed_69 ls st σ) : Rn (d + 1) 284 69 ls st σ K := wp_ok k_X12_weighed 400 _ 69 _ _ _ (by decide +kernel) h
def h_X12_weighed_93 : List Instr := [.iload 9, .sipush 60, .if_icmp .ge 200, .sipush 0, .istore 10, .sipush 0, .istore 11, .jsr 106]
theorem l_X12_weighed_93 {d : Nat} {ls st : List AV} {σ : Mem} {K : Option AV → Mem → Prop} (h : wp d 284 b_X12_weighed K 400 h_X12_weighed_93 ls st σ) : Rn (d + 1) 284 93 ls st σ K := wp_ok k_X12_weighed 400 _ 93 _ _ _ (by decide +kernel) h
def h_X12_weighed_106 : List Instr := [.iload 11, .sipush 60, .if_icmp .ge 178, .iload 10, .lload 5, .iload 9, .multianewarray 198 2, .ifCond .eq 168, .lload 5, .iload 11, .multianewarray 198 2, .ifCond .eq 168, .aload 0, .checkcast 1634032, .sipush 6, .iload 9, .imul, .iload 7, .iadd, .iaload, .aload 0, .checkcast 1634032, .sipush 6, .iload 11, .imul, .iload 7, .iadd, .iaload, .if_icmp .ne 168, .sipush 1, .goto 169]
theorem l_X12_weighed_106 {d : Nat} {ls st : List AV} {σ : Mem} {K : Option AV → Mem → Prop} (h : wp d 284 b_X12_weighed K 400 h_X12_weighed_106 ls st σ) : Rn (d + 1) 284 106 ls st σ K := wp_ok k_X12_weighed 400 _ 106 _ _ _ (by decide +kernel) h
def b_X12_chance (t : Nat) : List Instr := match t with
  | 0 => [.aload 0, .sipush 0, .putfield 768, .aload 0, .iload 1, .i2l, .invokeinterface 3260 1, .ifCond .eq 24, .iload 3, .i2l, .jsr_w 0, .jsr_w 1, .multianewarray 162 3, .ifCond .ne 28, .jsr 24]
  | 24 => [.jsr_w (-2), .lreturn]
  | 28 => [.iload 2, .i2l, .jsr_w 0, .jsr_w 15, .multianewarray 162 3, .ifCond .ne 44, .jsr_w (-3), .lreturn]
  | 44 => [.aload 0, .iload 1, .iload 2, .invokeinterface 4588 2, .lstore 4, .lload 4, .iload 2, .multianewarray 287 1, .multianewarray 288 2, .lstore 6, .iload 3, .ifCond .ne 72, .lload 4, .goto 76]
  | 72 => [.iload 2, .multianewarray 287 1, .jsr 76]
  | 76 => [.lload 6, .ldiv, .lreturn]
  | _ => []
theorem k_X12_chance : ∀ t, bok (mC 285) (mB 285) (mL 285) t (b_X12_chance t) = true := by
  intro t
  unfold b_X12_chance
  split
  all_goals first | decide +kernel | rfl
theorem e_X12_chance {d : Nat} {av : List AV} {σ : Mem} {K : Option AV → Mem → Prop} (hl : (entL av).length ≤ 8) (h : wp d 285 b_X12_chance K 400 (b_X12_chance 0) (ent 8 av) [] σ) : Ev (d + 1) 285 av σ K := Ev.enter (by decide) (by decide +kernel) hl (wp_ok k_X12_chance 400 _ 0 _ _ _ (k_X12_chance 0) h)
theorem r_X12_chance : mR 285 = (some .long) := by decide +kernel
def b_X12_chanceOf (t : Nat) : List Instr := match t with
  | 0 => [.aload 0, .checkcast 1576336, .sipush 18, .iaload, .istore 3, .aload 0, .checkcast 1576336, .sipush 19, .iaload, .istore 4, .jsr_w 1, .lstore 5, .sipush 1, .istore 7, .jsr 23]
  | 23 => [.goto_w 23]
  | 61 => [.sipush 10, .aload 0, .checkcast 1576336, .sipush 3, .iaload, .isub, .jsr 70]
  | 70 => [.istore 8, .aload 0, .checkcast 1576336, .sipush 19, .sipush 1, .iastore, .iload 8, .aload 0, .iload 1, .invokeinterface 3980 1, .sipush (-1), .if_icmp .ne 95, .sipush 0, .goto 101]
  | 95 => [.aload 0, .checkcast 1576336, .sipush 3, .iaload, .jsr 101]
  | 101 => [.iadd, .istore 8, .lload 5, .iload 8, .i2l, .lmul, .lstore 5, .iinc 7 1, .goto 23]
  | 118 => [.aload 0, .checkcast 1576336, .sipush 18, .iload 3, .iastore, .aload 0, .checkcast 1576336, .sipush 19, .iload 4, .iastore, .iload 2, .multianewarray 287 1, .lload 5, .lsub, .lreturn]
  | _ => []
theorem k_X12_chanceOf : ∀ t, bok (mC 286) (mB 286) (mL 286) t (b_X12_chanceOf t) = true := by
  intro t
  unfold b_X12_chanceOf
  split
  all_goals first | decide +kernel | rfl
theorem e_X12_chanceOf {d : Nat} {av : List AV} {σ : Mem} {K : Option AV → Mem → Prop} (hl : (entL av).length ≤ 9) (h : wp d 286 b_X12_chanceOf K 400 (b_X12_chanceOf 0) (ent 9 av) [] σ) : Ev (d + 1) 286 av σ K := Ev.enter (by decide) (by decide +kernel) hl (wp_ok k_X12_chanceOf 400 _ 0 _ _ _ (k_X12_chanceOf 0) h)
theorem r_X12_chanceOf : mR 286 = (some .long) := by decide +kernel
def h_X12_chanceOf_23 : List Instr := [.iload 7, .iload 2, .if_icmp .gt 118, .aload 0, .checkcast 1576336, .sipush 18, .iload 3, .iload 7, .iadd, .iastore, .aload 0, .checkcast 1576336, .sipush 19, .sipush 0, .iastore, .aload 0, .iload 1, .invokeinterface 3980 1, .sipush (-1), .if_icmp .ne 61, .sipush 0, .goto 70]
theorem l_X12_chanceOf_23 {d : Nat} {ls st : List AV} {σ : Mem} {K : Option AV → Mem → Prop} (h : wp d 286 b_X12_chanceOf K 400 h_X12_chanceOf_23 ls st σ) : Rn (d + 1) 286 23 ls st σ K := wp_ok k_X12_chanceOf 400 _ 23 _ _ _ (by decide +kernel) h
def b_X12_tens (t : Nat) : List Instr := match t with
  | 0 => [.jsr_w 1, .lstore 1, .sipush 0, .istore 3, .jsr 4]
  | 4 => [.goto_w 4]
  | 21 => [.lload 1, .lreturn]
  | _ => []
theorem k_X12_tens : ∀ t, bok (mC 287) (mB 287) (mL 287) t (b_X12_tens t) = true := by
  intro t
  unfold b_X12_tens
  split
  all_goals first | decide +kernel | rfl
theorem e_X12_tens {d : Nat} {av : List AV} {σ : Mem} {K : Option AV → Mem → Prop} (hl : (entL av).length ≤ 4) (h : wp d 287 b_X12_tens K 400 (b_X12_tens 0) (ent 4 av) [] σ) : Ev (d + 1) 287 av σ K := Ev.enter (by decide) (by decide +kernel) hl (wp_ok k_X12_tens 400 _ 0 _ _ _ (k_X12_tens 0) h)
theorem r_X12_tens : mR 287 = (some .long) := by decide +kernel
def h_X12_tens_4 : List Instr := [.iload 3, .iload 0, .if_icmp .ge 21, .lload 1, .jsr_w 10, .lmul, .lstore 1, .iinc 3 1, .goto 4]
theorem l_X12_tens_4 {d : Nat} {ls st : List AV} {σ : Mem} {K : Option AV → Mem → Prop} (h : wp d 287 b_X12_tens K 400 h_X12_tens_4 ls st σ) : Rn (d + 1) 287 4 ls st σ K := wp_ok k_X12_tens 400 _ 4 _ _ _ (by decide +kernel) h
def b_X12_common (t : Nat) : List Instr := match t with
  | 0 => [.lload 2, .jsr_w 0, .lcmp, .ifCond .ne 10, .lload 0, .goto 17]
  | 10 => [.lload 2, .lload 0, .lload 2, .lrem, .multianewarray 288 2, .jsr 17]
  | 17 => [.lreturn]
  | _ => []
theorem k_X12_common : ∀ t, bok (mC 288) (mB 288) (mL 288) t (b_X12_common t) = true := by
  intro t
  unfold b_X12_common
  split
  all_goals first | decide +kernel | rfl
theorem e_X12_common {d : Nat} {av : List AV} {σ : Mem} {K : Option AV → Mem → Prop} (hl : (entL av).length ≤ 4) (h : wp d 288 b_X12_common K 400 (b_X12_common 0) (ent 4 av) [] σ) : Ev (d + 1) 288 av σ K := Ev.enter (by decide) (by decide +kernel) hl (wp_ok k_X12_common 400 _ 0 _ _ _ (k_X12_common 0) h)
theorem r_X12_common : mR 288 = (some .long) := by decide +kernel
def b_X12_likely (t : Nat) : List Instr := match t with
  | 0 => [.aload 0, .sipush 0, .putfield 768, .aload 0, .iload 1, .i2l, .invokeinterface 3260 1, .ifCond .ne 17, .sipush (-2), .ireturn]
  | 17 => [.iload 2, .i2l, .jsr_w 0, .jsr_w 100, .multianewarray 162 3, .ifCond .ne 32, .sipush (-3), .ireturn]
  | 32 => [.sipush 0, .istore 3, .jsr 34]
  | 34 => [.goto_w 34]
  | 63 => [.iinc 3 1, .goto 34]
  | 69 => [.sipush (-1), .ireturn]
  | _ => []
theorem k_X12_likely : ∀ t, bok (mC 289) (mB 289) (mL 289) t (b_X12_likely t) = true := by
  intro t
  unfold b_X12_likely
  split
  all_goals first | decide +kernel | rfl
theorem e_X12_likely {d : Nat} {av : List AV} {σ : Mem} {K : Option AV → Mem → Prop} (hl : (entL av).length ≤ 4) (h : wp d 289 b_X12_likely K 400 (b_X12_likely 0) (ent 4 av) [] σ) : Ev (d + 1) 289 av σ K := Ev.enter (by decide) (by decide +kernel) hl (wp_ok k_X12_likely 400 _ 0 _ _ _ (k_X12_likely 0) h)
theorem r_X12_likely : mR 289 = (some .int) := by decide +kernel
def h_X12_likely_34 : List Instr := [.iload 3, .sipush 15, .if_icmp .gt 69, .aload 0, .iload 1, .iload 3, .invokeinterface 4588 2, .jsr_w 100, .lmul, .iload 2, .i2l, .iload 3, .multianewarray 287 1, .lmul, .lcmp, .ifCond .lt 63, .iload 3, .ireturn]
theorem l_X12_likely_34 {d : Nat} {ls st : List AV} {σ : Mem} {K : Option AV → Mem → Prop} (h : wp d 289 b_X12_likely K 400 h_X12_likely_34 ls st σ) : Rn (d + 1) 289 34 ls st σ K := wp_ok k_X12_likely 400 _ 34 _ _ _ (by decide +kernel) h
def b_X12_numbers (t : Nat) : List Instr := match t with
  | 0 => [.aload 0, .sipush 0, .putfield 768, .iload 1, .i2l, .jsr_w 0, .jsr_w 3, .multianewarray 162 3, .ifCond .eq 29, .iload 2, .i2l, .jsr_w 0, .jsr_w 3, .multianewarray 162 3, .ifCond .ne 32, .jsr 29]
  | 29 => [.sipush (-2), .ireturn]
  | 32 => [.iload 3, .i2l, .jsr_w 0, .jsr_w 40, .multianewarray 162 3, .ifCond .ne 47, .sipush (-3), .ireturn]
  | 47 => [.aload 0, .checkcast 1636112, .iload 1, .iload 2, .iastore, .aload 0, .checkcast 1638192, .iload 1, .iload 3, .iastore, .sipush 0, .istore 4, .jsr 64]
  | 64 => [.goto_w 64]
  | 89 => [.sipush 0, .ireturn]
  | _ => []
theorem k_X12_numbers : ∀ t, bok (mC 290) (mB 290) (mL 290) t (b_X12_numbers t) = true := by
  intro t
  unfold b_X12_numbers
  split
  all_goals first | decide +kernel | rfl
theorem e_X12_numbers {d : Nat} {av : List AV} {σ : Mem} {K : Option AV → Mem → Prop} (hl : (entL av).length ≤ 5) (h : wp d 290 b_X12_numbers K 400 (b_X12_numbers 0) (ent 5 av) [] σ) : Ev (d + 1) 290 av σ K := Ev.enter (by decide) (by decide +kernel) hl (wp_ok k_X12_numbers 400 _ 0 _ _ _ (k_X12_numbers 0) h)
theorem r_X12_numbers : mR 290 = (some .int) := by decide +kernel
def h_X12_numbers_64 : List Instr := [.iload 4, .iload 3, .if_icmp .ge 89, .aload 0, .checkcast 1640272, .sipush 40, .iload 1, .imul, .iload 4, .iadd, .jsr_w 0, .lastore, .iinc 4 1, .goto 64]
theorem l_X12_numbers_64 {d : Nat} {ls st : List AV} {σ : Mem} {K : Option AV → Mem → Prop} (h : wp d 290 b_X12_numbers K 400 h_X12_numbers_64 ls st σ) : Rn (d + 1) 290 64 ls st σ K := wp_ok k_X12_numbers 400 _ 64 _ _ _ (by decide +kernel) h
def b_X12_write (t : Nat) : List Instr := match t with
  | 0 => [.aload 0, .sipush 0, .putfield 768, .aload 0, .iload 1, .invokeinterface 3644 1, .istore 5, .iload 5, .ifCond .eq 21, .iload 5, .i2l, .lreturn]
  | 21 => [.iload 2, .i2l, .jsr_w 0, .aload 0, .checkcast 1638192, .iload 1, .iaload, .sipush 1, .isub, .i2l, .multianewarray 162 3, .ifCond .ne 43, .jsr_w (-7), .lreturn]
  | 43 => [.aload 0, .checkcast 1640272, .sipush 40, .iload 1, .imul, .iload 2, .iadd, .lload 3, .aload 0, .checkcast 1636112, .iload 1, .iaload, .multianewarray 292 2, .lastore, .aload 0, .checkcast 1640272, .sipush 40, .iload 1, .imul, .iload 2, .iadd, .laload, .lreturn]
  | _ => []
theorem k_X12_write : ∀ t, bok (mC 291) (mB 291) (mL 291) t (b_X12_write t) = true := by
  intro t
  unfold b_X12_write
  split
  all_goals first | decide +kernel | rfl
theorem e_X12_write {d : Nat} {av : List AV} {σ : Mem} {K : Option AV → Mem → Prop} (hl : (entL av).length ≤ 6) (h : wp d 291 b_X12_write K 400 (b_X12_write 0) (ent 6 av) [] σ) : Ev (d + 1) 291 av σ K := Ev.enter (by decide) (by decide +kernel) hl (wp_ok k_X12_write 400 _ 0 _ _ _ (k_X12_write 0) h)
theorem r_X12_write : mR 291 = (some .long) := by decide +kernel
def b_X12_cut (t : Nat) : List Instr := match t with
  | 0 => [.iload 2, .ifCond .ne 11, .lload 0, .l2i, .i2b, .i2l, .goto 35]
  | 11 => [.iload 2, .sipush 1, .if_icmp .ne 23, .lload 0, .l2i, .i2s, .i2l, .goto 35]
  | 23 => [.iload 2, .sipush 2, .if_icmp .ne 34, .lload 0, .l2i, .ldc2_w 0, .goto 35]
  | 34 => [.lload 0, .jsr 35]
  | 35 => [.lreturn]
  | _ => []
theorem k_X12_cut : ∀ t, bok (mC 292) (mB 292) (mL 292) t (b_X12_cut t) = true := by
  intro t
  unfold b_X12_cut
  split
  all_goals first | decide +kernel | rfl
theorem e_X12_cut {d : Nat} {av : List AV} {σ : Mem} {K : Option AV → Mem → Prop} (hl : (entL av).length ≤ 3) (h : wp d 292 b_X12_cut K 400 (b_X12_cut 0) (ent 3 av) [] σ) : Ev (d + 1) 292 av σ K := Ev.enter (by decide) (by decide +kernel) hl (wp_ok k_X12_cut 400 _ 0 _ _ _ (k_X12_cut 0) h)
theorem r_X12_cut : mR 292 = (some .long) := by decide +kernel
def b_X12_lists (t : Nat) : List Instr := match t with
  | 0 => [.aload 0, .sipush 0, .putfield 768, .aload 0, .iload 1, .invokeinterface 3644 1, .istore 2, .iload 2, .ifCond .eq 17, .iload 2, .ireturn]
  | 17 => [.aload 0, .checkcast 1576336, .sipush 2, .iaload, .aload 0, .checkcast 1638192, .iload 1, .iaload, .if_icmp .ge 41, .aload 0, .checkcast 1576336, .sipush 2, .iaload, .goto 47]
  | 41 => [.aload 0, .checkcast 1638192, .iload 1, .iaload, .jsr 47]
  | 47 => [.istore 3, .sipush 0, .istore 4, .jsr 51]
  | 51 => [.goto_w 51]
  | 91 => [.iload 3, .ireturn]
  | _ => []
theorem k_X12_lists : ∀ t, bok (mC 293) (mB 293) (mL 293) t (b_X12_lists t) = true := by
  intro t
  unfold b_X12_lists
  split
  all_goals first | decide +kernel | rfl
theorem e_X12_lists {d : Nat} {av : List AV} {σ : Mem} {K : Option AV → Mem → Prop} (hl : (entL av).length ≤ 5) (h : wp d 293 b_X12_lists K 400 (b_X12_lists 0) (ent 5 av) [] σ) : Ev (d + 1) 293 av σ K := Ev.enter (by decide) (by decide +kernel) hl (wp_ok k_X12_lists 400 _ 0 _ _ _ (k_X12_lists 0) h)
theorem r_X12_lists : mR 293 = (some .int) := by decide +kernel
def h_X12_lists_51 : List Instr := [.iload 4, .iload 3, .if_icmp .ge 91, .aload 0, .checkcast 1640272, .sipush 40, .iload 1, .imul, .iload 4, .iadd, .aload 0, .iload 4, .invokeinterface 3052 1, .i2l, .aload 0, .checkcast 1636112, .iload 1, .iaload, .multianewarray 292 2, .lastore, .iinc 4 1, .goto 51]
theorem l_X12_lists_51 {d : Nat} {ls st : List AV} {σ : Mem} {K : Option AV → Mem → Prop} (h : wp d 293 b_X12_lists K 400 h_X12_lists_51 ls st σ) : Rn (d + 1) 293 51 ls st σ K := wp_ok k_X12_lists 400 _ 51 _ _ _ (by decide +kernel) h
def b_X12_image (t : Nat) : List Instr := match t with
  | 0 => [.aload 0, .sipush 0, .putfield 768, .iload 1, .i2l, .jsr_w 0, .jsr_w 1, .multianewarray 162 3, .ifCond .ne 18, .sipush (-2), .ireturn]
  | 18 => [.sipush 0, .istore 2, .jsr 20]
  | 20 => [.goto_w 20]
  | 53 => [.aload 0, .checkcast 1578416, .iload 1, .sipush 1, .bastore, .sipush 0, .ireturn]
  | _ => []
theorem k_X12_image : ∀ t, bok (mC 294) (mB 294) (mL 294) t (b_X12_image t) = true := by
  intro t
  unfold b_X12_image
  split
  all_goals first | decide +kernel | rfl
theorem e_X12_image {d : Nat} {av : List AV} {σ : Mem} {K : Option AV → Mem → Prop} (hl : (entL av).length ≤ 3) (h : wp d 294 b_X12_image K 400 (b_X12_image 0) (ent 3 av) [] σ) : Ev (d + 1) 294 av σ K := Ev.enter (by decide) (by decide +kernel) hl (wp_ok k_X12_image 400 _ 0 _ _ _ (k_X12_image 0) h)
theorem r_X12_image : mR 294 = (some .int) := by decide +kernel
def h_X12_image_20 : List Instr := [.iload 2, .sipush 1514, .if_icmp .ge 53, .aload 0, .checkcast 1576336, .sipush 1514, .iload 1, .sipush 1, .iadd, .imul, .iload 2, .iadd, .aload 0, .checkcast 1576336, .iload 2, .iaload, .iastore, .iinc 2 1, .goto 20]
theorem l_X12_image_20 {d : Nat} {ls st : List AV} {σ : Mem} {K : Option AV → Mem → Prop} (h : wp d 294 b_X12_image K 400 h_X12_image_20 ls st σ) : Rn (d + 1) 294 20 ls st σ K := wp_ok k_X12_image 400 _ 20 _ _ _ (by decide +kernel) h
def b_X12_restore (t : Nat) : List Instr := match t with
  | 0 => [.aload 0, .sipush 0, .putfield 768, .iload 1, .i2l, .jsr_w 0, .jsr_w 1, .multianewarray 162 3, .ifCond .ne 18, .sipush (-2), .ireturn]
  | 18 => [.aload 0, .checkcast 1578416, .iload 1, .baload, .ifCond .ne 30, .sipush (-5), .ireturn]
  | 30 => [.sipush 0, .istore 2, .jsr 32]
  | 32 => [.goto_w 32]
  | 65 => [.aload 0, .checkcast 1576336, .sipush 72, .sipush 0, .iastore, .sipush 0, .ireturn]
  | _ => []
theorem k_X12_restore : ∀ t, bok (mC 295) (mB 295) (mL 295) t (b_X12_restore t) = true := by
  intro t
  unfold b_X12_restore
  split
  all_goals first | decide +kernel | rfl
theorem e_X12_restore {d : Nat} {av : List AV} {σ : Mem} {K : Option AV → Mem → Prop} (hl : (entL av).length ≤ 3) (h : wp d 295 b_X12_restore K 400 (b_X12_restore 0) (ent 3 av) [] σ) : Ev (d + 1) 295 av σ K := Ev.enter (by decide) (by decide +kernel) hl (wp_ok k_X12_restore 400 _ 0 _ _ _ (k_X12_restore 0) h)
theorem r_X12_restore : mR 295 = (some .int) := by decide +kernel
def h_X12_restore_32 : List Instr := [.iload 2, .sipush 1514, .if_icmp .ge 65, .aload 0, .checkcast 1576336, .iload 2, .aload 0, .checkcast 1576336, .sipush 1514, .iload 1, .sipush 1, .iadd, .imul, .iload 2, .iadd, .iaload, .iastore, .iinc 2 1, .goto 32]
theorem l_X12_restore_32 {d : Nat} {ls st : List AV} {σ : Mem} {K : Option AV → Mem → Prop} (h : wp d 295 b_X12_restore K 400 h_X12_restore_32 ls st σ) : Rn (d + 1) 295 32 ls st σ K := wp_ok k_X12_restore 400 _ 32 _ _ _ (by decide +kernel) h
def b_X12_count (t : Nat) : List Instr := match t with
  | 0 => [.aload 0, .sipush 0, .putfield 768, .iload 1, .tableswitch 155 0 12 #[72, 79, 86, 91, 96, 101, 106, 111, 119, 127, 135, 143, 148]]
  | 72 => [.aload 0, .checkcast 1576336, .sipush 1, .iaload, .ireturn]
  | 79 => [.aload 0, .checkcast 1576336, .sipush 2, .iaload, .ireturn]
  | 86 => [.aload 0, .invokeinterface 3868 0, .ireturn]
  | 91 => [.aload 0, .invokeinterface 3884 0, .ireturn]
  | 96 => [.aload 0, .invokeinterface 4764 0, .ireturn]
  | 101 => [.aload 0, .invokeinterface 4780 0, .ireturn]
  | 106 => [.aload 0, .invokeinterface 4796 0, .ireturn]
  | 111 => [.aload 0, .checkcast 1576336, .sipush 21, .iaload, .ireturn]
  | 119 => [.aload 0, .checkcast 1576336, .sipush 18, .iaload, .ireturn]
  | 127 => [.aload 0, .checkcast 1576336, .sipush 19, .iaload, .ireturn]
  | 135 => [.aload 0, .checkcast 1576336, .sipush 72, .iaload, .ireturn]
  | 143 => [.aload 0, .getfield 773, .ireturn]
  | 148 => [.aload 0, .checkcast 1576336, .sipush 0, .iaload, .ireturn]
  | 155 => [.sipush (-1), .ireturn]
  | _ => []
theorem k_X12_count : ∀ t, bok (mC 296) (mB 296) (mL 296) t (b_X12_count t) = true := by
  intro t
  unfold b_X12_count
  split
  all_goals first | decide +kernel | rfl
theorem e_X12_count {d : Nat} {av : List AV} {σ : Mem} {K : Option AV → Mem → Prop} (hl : (entL av).length ≤ 2) (h : wp d 296 b_X12_count K 400 (b_X12_count 0) (ent 2 av) [] σ) : Ev (d + 1) 296 av σ K := Ev.enter (by decide) (by decide +kernel) hl (wp_ok k_X12_count 400 _ 0 _ _ _ (k_X12_count 0) h)
theorem r_X12_count : mR 296 = (some .int) := by decide +kernel
def b_X12_onPlanks (t : Nat) : List Instr := match t with
  | 0 => [.sipush 0, .istore 1, .sipush 0, .istore 2, .jsr 4]
  | 4 => [.goto_w 4]
  | 29 => [.sipush 0, .jsr 30]
  | 30 => [.ior, .istore 1, .iinc 2 1, .goto 4]
  | 38 => [.iload 1, .ireturn]
  | _ => []
theorem k_X12_onPlanks : ∀ t, bok (mC 297) (mB 297) (mL 297) t (b_X12_onPlanks t) = true := by
  intro t
  unfold b_X12_onPlanks
  split
  all_goals first | decide +kernel | rfl
theorem e_X12_onPlanks {d : Nat} {av : List AV} {σ : Mem} {K : Option AV → Mem → Prop} (hl : (entL av).length ≤ 3) (h : wp d 297 b_X12_onPlanks K 400 (b_X12_onPlanks 0) (ent 3 av) [] σ) : Ev (d + 1) 297 av σ K := Ev.enter (by decide) (by decide +kernel) hl (wp_ok k_X12_onPlanks 400 _ 0 _ _ _ (k_X12_onPlanks 0) h)
theorem r_X12_onPlanks : mR 297 = (some .int) := by decide +kernel
def h_X12_onPlanks_4 : List Instr := [.iload 2, .aload 0, .checkcast 1576336, .sipush 2, .iaload, .if_icmp .ge 38, .iload 1, .aload 0, .iload 2, .invokeinterface 3036 1, .ifCond .eq 29, .sipush 1, .iload 2, .ishl, .goto 30]
theorem l_X12_onPlanks_4 {d : Nat} {ls st : List AV} {σ : Mem} {K : Option AV → Mem → Prop} (h : wp d 297 b_X12_onPlanks K 400 h_X12_onPlanks_4 ls st σ) : Rn (d + 1) 297 4 ls st σ K := wp_ok k_X12_onPlanks 400 _ 4 _ _ _ (by decide +kernel) h
def b_X12_papersAll (t : Nat) : List Instr := match t with
  | 0 => [.sipush 0, .istore 1, .sipush 0, .istore 2, .jsr 4]
  | 4 => [.goto_w 4]
  | 28 => [.iload 1, .ireturn]
  | _ => []
theorem k_X12_papersAll : ∀ t, bok (mC 298) (mB 298) (mL 298) t (b_X12_papersAll t) = true := by
  intro t
  unfold b_X12_papersAll
  split
  all_goals first | decide +kernel | rfl
theorem e_X12_papersAll {d : Nat} {av : List AV} {σ : Mem} {K : Option AV → Mem → Prop} (hl : (entL av).length ≤ 3) (h : wp d 298 b_X12_papersAll K 400 (b_X12_papersAll 0) (ent 3 av) [] σ) : Ev (d + 1) 298 av σ K := Ev.enter (by decide) (by decide +kernel) hl (wp_ok k_X12_papersAll 400 _ 0 _ _ _ (k_X12_papersAll 0) h)
theorem r_X12_papersAll : mR 298 = (some .int) := by decide +kernel
def h_X12_papersAll_4 : List Instr := [.iload 2, .aload 0, .checkcast 1576336, .sipush 2, .iaload, .if_icmp .ge 28, .iload 1, .aload 0, .iload 2, .invokeinterface 3100 1, .iadd, .istore 1, .iinc 2 1, .goto 4]
theorem l_X12_papersAll_4 {d : Nat} {ls st : List AV} {σ : Mem} {K : Option AV → Mem → Prop} (h : wp d 298 b_X12_papersAll K 400 h_X12_papersAll_4 ls st σ) : Rn (d + 1) 298 4 ls st σ K := wp_ok k_X12_papersAll 400 _ 4 _ _ _ (by decide +kernel) h
def b_X12_debtAll (t : Nat) : List Instr := match t with
  | 0 => [.sipush 0, .istore 1, .sipush 0, .istore 2, .jsr 4]
  | 4 => [.goto_w 4]
  | 28 => [.iload 1, .ireturn]
  | _ => []
theorem k_X12_debtAll : ∀ t, bok (mC 299) (mB 299) (mL 299) t (b_X12_debtAll t) = true := by
  intro t
  unfold b_X12_debtAll
  split
  all_goals first | decide +kernel | rfl
theorem e_X12_debtAll {d : Nat} {av : List AV} {σ : Mem} {K : Option AV → Mem → Prop} (hl : (entL av).length ≤ 3) (h : wp d 299 b_X12_debtAll K 400 (b_X12_debtAll 0) (ent 3 av) [] σ) : Ev (d + 1) 299 av σ K := Ev.enter (by decide) (by decide +kernel) hl (wp_ok k_X12_debtAll 400 _ 0 _ _ _ (k_X12_debtAll 0) h)
theorem r_X12_debtAll : mR 299 = (some .int) := by decide +kernel
def h_X12_debtAll_4 : List Instr := [.iload 2, .aload 0, .checkcast 1576336, .sipush 2, .iaload, .if_icmp .ge 28, .iload 1, .aload 0, .iload 2, .invokeinterface 3068 1, .iadd, .istore 1, .iinc 2 1, .goto 4]
theorem l_X12_debtAll_4 {d : Nat} {ls st : List AV} {σ : Mem} {K : Option AV → Mem → Prop} (h : wp d 299 b_X12_debtAll K 400 h_X12_debtAll_4 ls st σ) : Rn (d + 1) 299 4 ls st σ K := wp_ok k_X12_debtAll 400 _ 4 _ _ _ (by decide +kernel) h
def b_J7_fill_53178 (t : Nat) : List Instr := match t with
  | 0 => [.sipush 0, .istore 2, .aload 0, .arraylength, .istore 3, .jsr 5]
  | 5 => [.goto_w 5]
  | 20 => [.return_]
  | _ => []
theorem k_J7_fill_53178 : ∀ t, bok (mC 300) (mB 300) (mL 300) t (b_J7_fill_53178 t) = true := by
  intro t
  unfold b_J7_fill_53178
  split
  all_goals first | decide +kernel | rfl
theorem e_J7_fill_53178 {d : Nat} {av : List AV} {σ : Mem} {K : Option AV → Mem → Prop} (hl : (entL av).length ≤ 4) (h : wp d 300 b_J7_fill_53178 K 400 (b_J7_fill_53178 0) (ent 4 av) [] σ) : Ev (d + 1) 300 av σ K := Ev.enter (by decide) (by decide +kernel) hl (wp_ok k_J7_fill_53178 400 _ 0 _ _ _ (k_J7_fill_53178 0) h)
theorem r_J7_fill_53178 : mR 300 = none := by decide +kernel
def h_J7_fill_53178_5 : List Instr := [.iload 2, .iload 3, .if_icmp .ge 20, .aload 0, .iload 2, .iload 1, .iastore, .iinc 2 1, .goto 5]
theorem l_J7_fill_53178_5 {d : Nat} {ls st : List AV} {σ : Mem} {K : Option AV → Mem → Prop} (h : wp d 300 b_J7_fill_53178 K 400 h_J7_fill_53178_5 ls st σ) : Rn (d + 1) 300 5 ls st σ K := wp_ok k_J7_fill_53178 400 _ 5 _ _ _ (by decide +kernel) h
def b_J6_bitCount_0f7a4 (t : Nat) : List Instr := match t with
  | 0 => [.iload 0, .iload 0, .sipush 1, .iushr, .sipush 1431655765, .iand, .isub, .istore 0, .iload 0, .sipush 858993459, .iand, .iload 0, .sipush 2, .iushr, .sipush 858993459, .iand, .iadd, .istore 0, .iload 0, .iload 0, .sipush 4, .iushr, .iadd, .sipush 252645135, .iand, .istore 0, .iload 0, .iload 0, .sipush 8, .iushr, .iadd, .istore 0, .iload 0, .iload 0, .sipush 16, .iushr, .iadd, .istore 0, .iload 0, .sipush 63, .iand, .ireturn]
  | _ => []
theorem k_J6_bitCount_0f7a4 : ∀ t, bok (mC 301) (mB 301) (mL 301) t (b_J6_bitCount_0f7a4 t) = true := by
  intro t
  unfold b_J6_bitCount_0f7a4
  split
  all_goals first | decide +kernel | rfl
theorem e_J6_bitCount_0f7a4 {d : Nat} {av : List AV} {σ : Mem} {K : Option AV → Mem → Prop} (hl : (entL av).length ≤ 1) (h : wp d 301 b_J6_bitCount_0f7a4 K 400 (b_J6_bitCount_0f7a4 0) (ent 1 av) [] σ) : Ev (d + 1) 301 av σ K := Ev.enter (by decide) (by decide +kernel) hl (wp_ok k_J6_bitCount_0f7a4 400 _ 0 _ _ _ (k_J6_bitCount_0f7a4 0) h)
theorem r_J6_bitCount_0f7a4 : mR 301 = (some .int) := by decide +kernel
def b_J7_fill_d0a16 (t : Nat) : List Instr := match t with
  | 0 => [.sipush 0, .istore 3, .aload 0, .arraylength, .istore 4, .jsr 6]
  | 6 => [.goto_w 6]
  | 22 => [.return_]
  | _ => []
theorem k_J7_fill_d0a16 : ∀ t, bok (mC 302) (mB 302) (mL 302) t (b_J7_fill_d0a16 t) = true := by
  intro t
  unfold b_J7_fill_d0a16
  split
  all_goals first | decide +kernel | rfl
theorem e_J7_fill_d0a16 {d : Nat} {av : List AV} {σ : Mem} {K : Option AV → Mem → Prop} (hl : (entL av).length ≤ 5) (h : wp d 302 b_J7_fill_d0a16 K 400 (b_J7_fill_d0a16 0) (ent 5 av) [] σ) : Ev (d + 1) 302 av σ K := Ev.enter (by decide) (by decide +kernel) hl (wp_ok k_J7_fill_d0a16 400 _ 0 _ _ _ (k_J7_fill_d0a16 0) h)
theorem r_J7_fill_d0a16 : mR 302 = none := by decide +kernel
def h_J7_fill_d0a16_6 : List Instr := [.iload 3, .iload 4, .if_icmp .ge 22, .aload 0, .iload 3, .lload 1, .lastore, .iinc 3 1, .goto 6]
theorem l_J7_fill_d0a16_6 {d : Nat} {ls st : List AV} {σ : Mem} {K : Option AV → Mem → Prop} (h : wp d 302 b_J7_fill_d0a16 K 400 h_J7_fill_d0a16_6 ls st σ) : Rn (d + 1) 302 6 ls st σ K := wp_ok k_J7_fill_d0a16 400 _ 6 _ _ _ (by decide +kernel) h
def b_J0_length_8abf5 (t : Nat) : List Instr := match t with
  | 0 => [.aload 0, .anewarray 0, .anewarray 4, .aload 0, .invokevirtual 304, .ishr, .ireturn]
  | _ => []
theorem k_J0_length_8abf5 : ∀ t, bok (mC 303) (mB 303) (mL 303) t (b_J0_length_8abf5 t) = true := by
  intro t
  unfold b_J0_length_8abf5
  split
  all_goals first | decide +kernel | rfl
theorem e_J0_length_8abf5 {d : Nat} {av : List AV} {σ : Mem} {K : Option AV → Mem → Prop} (hl : (entL av).length ≤ 1) (h : wp d 303 b_J0_length_8abf5 K 400 (b_J0_length_8abf5 0) (ent 1 av) [] σ) : Ev (d + 1) 303 av σ K := Ev.enter (by decide) (by decide +kernel) hl (wp_ok k_J0_length_8abf5 400 _ 0 _ _ _ (k_J0_length_8abf5 0) h)
theorem r_J0_length_8abf5 : mR 303 = (some .int) := by decide +kernel
def b_J0_coder_7d493 (t : Nat) : List Instr := match t with
  | 0 => [.anewarray 2, .ifCond .eq 13, .aload 0, .anewarray 1, .goto 14]
  | 13 => [.sipush 1, .jsr 14]
  | 14 => [.freturn]
  | _ => []
theorem k_J0_coder_7d493 : ∀ t, bok (mC 304) (mB 304) (mL 304) t (b_J0_coder_7d493 t) = true := by
  intro t
  unfold b_J0_coder_7d493
  split
  all_goals first | decide +kernel | rfl
theorem e_J0_coder_7d493 {d : Nat} {av : List AV} {σ : Mem} {K : Option AV → Mem → Prop} (hl : (entL av).length ≤ 1) (h : wp d 304 b_J0_coder_7d493 K 400 (b_J0_coder_7d493 0) (ent 1 av) [] σ) : Ev (d + 1) 304 av σ K := Ev.enter (by decide) (by decide +kernel) hl (wp_ok k_J0_coder_7d493 400 _ 0 _ _ _ (k_J0_coder_7d493 0) h)
theorem r_J0_coder_7d493 : mR 304 = (some .byte) := by decide +kernel
def b_J0_isLatin1_aae02 (t : Nat) : List Instr := match t with
  | 0 => [.anewarray 2, .ifCond .eq 17, .aload 0, .anewarray 1, .ifCond .ne 17, .sipush 1, .goto 18]
  | 17 => [.sipush 0, .jsr 18]
  | 18 => [.ireturn]
  | _ => []
theorem k_J0_isLatin1_aae02 : ∀ t, bok (mC 305) (mB 305) (mL 305) t (b_J0_isLatin1_aae02 t) = true := by
  intro t
  unfold b_J0_isLatin1_aae02
  split
  all_goals first | decide +kernel | rfl
theorem e_J0_isLatin1_aae02 {d : Nat} {av : List AV} {σ : Mem} {K : Option AV → Mem → Prop} (hl : (entL av).length ≤ 1) (h : wp d 305 b_J0_isLatin1_aae02 K 400 (b_J0_isLatin1_aae02 0) (ent 1 av) [] σ) : Ev (d + 1) 305 av σ K := Ev.enter (by decide) (by decide +kernel) hl (wp_ok k_J0_isLatin1_aae02 400 _ 0 _ _ _ (k_J0_isLatin1_aae02 0) h)
theorem r_J0_isLatin1_aae02 : mR 305 = (some .boolean) := by decide +kernel
def b_J0_charAt_5068e (t : Nat) : List Instr := match t with
  | 0 => [.aload 0, .invokevirtual 305, .ifCond .eq 16, .aload 0, .anewarray 0, .iload 1, .multianewarray 310 2, .freturn]
  | 16 => [.aload 0, .anewarray 0, .iload 1]
  | _ => []
theorem k_J0_charAt_5068e : ∀ t, bok (mC 306) (mB 306) (mL 306) t (b_J0_charAt_5068e t) = true := by
  intro t
  unfold b_J0_charAt_5068e
  split
  all_goals first | decide +kernel | rfl
theorem e_J0_charAt_5068e {d : Nat} {av : List AV} {σ : Mem} {K : Option AV → Mem → Prop} (hl : (entL av).length ≤ 2) (h : wp d 306 b_J0_charAt_5068e K 400 (b_J0_charAt_5068e 0) (ent 2 av) [] σ) : Ev (d + 1) 306 av σ K := Ev.enter (by decide) (by decide +kernel) hl (wp_ok k_J0_charAt_5068e 400 _ 0 _ _ _ (k_J0_charAt_5068e 0) h)
theorem r_J0_charAt_5068e : mR 306 = (some .char) := by decide +kernel
def b_J0_checkIndex_df160 (t : Nat) : List Instr := match t with
  | 0 => [.iload 0, .iload 1, .anewarray 3, .multianewarray 314 3, .pop, .return_]
  | _ => []
theorem k_J0_checkIndex_df160 : ∀ t, bok (mC 307) (mB 307) (mL 307) t (b_J0_checkIndex_df160 t) = true := by
  intro t
  unfold b_J0_checkIndex_df160
  split
  all_goals first | decide +kernel | rfl
theorem e_J0_checkIndex_df160 {d : Nat} {av : List AV} {σ : Mem} {K : Option AV → Mem → Prop} (hl : (entL av).length ≤ 2) (h : wp d 307 b_J0_checkIndex_df160 K 400 (b_J0_checkIndex_df160 0) (ent 2 av) [] σ) : Ev (d + 1) 307 av σ K := Ev.enter (by decide) (by decide +kernel) hl (wp_ok k_J0_checkIndex_df160 400 _ 0 _ _ _ (k_J0_checkIndex_df160 0) h)
theorem r_J0_checkIndex_df160 : mR 307 = none := by decide +kernel
def b_J0_indexOf_0f7a4 (t : Nat) : List Instr := match t with
  | 0 => [.aload 0, .iload 1, .sipush 0, .invokevirtual 309, .ireturn]
  | _ => []
theorem k_J0_indexOf_0f7a4 : ∀ t, bok (mC 308) (mB 308) (mL 308) t (b_J0_indexOf_0f7a4 t) = true := by
  intro t
  unfold b_J0_indexOf_0f7a4
  split
  all_goals first | decide +kernel | rfl
theorem e_J0_indexOf_0f7a4 {d : Nat} {av : List AV} {σ : Mem} {K : Option AV → Mem → Prop} (hl : (entL av).length ≤ 2) (h : wp d 308 b_J0_indexOf_0f7a4 K 400 (b_J0_indexOf_0f7a4 0) (ent 2 av) [] σ) : Ev (d + 1) 308 av σ K := Ev.enter (by decide) (by decide +kernel) hl (wp_ok k_J0_indexOf_0f7a4 400 _ 0 _ _ _ (k_J0_indexOf_0f7a4 0) h)
theorem r_J0_indexOf_0f7a4 : mR 308 = (some .int) := by decide +kernel
def b_J0_indexOf_7cf53 (t : Nat) : List Instr := match t with
  | 0 => [.aload 0, .invokevirtual 305, .ifCond .eq 23, .aload 0, .anewarray 0, .iload 1, .iload 2, .aload 0, .invokevirtual 303, .multianewarray 311 4, .goto 36]
  | 23 => [.aload 0, .anewarray 0, .iload 1, .iload 2, .aload 0, .invokevirtual 303]
  | 36 => [.ireturn]
  | _ => []
theorem k_J0_indexOf_7cf53 : ∀ t, bok (mC 309) (mB 309) (mL 309) t (b_J0_indexOf_7cf53 t) = true := by
  intro t
  unfold b_J0_indexOf_7cf53
  split
  all_goals first | decide +kernel | rfl
theorem e_J0_indexOf_7cf53 {d : Nat} {av : List AV} {σ : Mem} {K : Option AV → Mem → Prop} (hl : (entL av).length ≤ 3) (h : wp d 309 b_J0_indexOf_7cf53 K 400 (b_J0_indexOf_7cf53 0) (ent 3 av) [] σ) : Ev (d + 1) 309 av σ K := Ev.enter (by decide) (by decide +kernel) hl (wp_ok k_J0_indexOf_7cf53 400 _ 0 _ _ _ (k_J0_indexOf_7cf53 0) h)
theorem r_J0_indexOf_7cf53 : mR 309 = (some .int) := by decide +kernel
def b_J1_charAt_3b067 (t : Nat) : List Instr := match t with
  | 0 => [.iload 1, .aload 0, .anewarray 4, .multianewarray 307 2, .aload 0, .iload 1, .anewarray 5, .sipush 255, .iand, .i2c, .freturn]
  | _ => []
theorem k_J1_charAt_3b067 : ∀ t, bok (mC 310) (mB 310) (mL 310) t (b_J1_charAt_3b067 t) = true := by
  intro t
  unfold b_J1_charAt_3b067
  split
  all_goals first | decide +kernel | rfl
theorem e_J1_charAt_3b067 {d : Nat} {av : List AV} {σ : Mem} {K : Option AV → Mem → Prop} (hl : (entL av).length ≤ 2) (h : wp d 310 b_J1_charAt_3b067 K 400 (b_J1_charAt_3b067 0) (ent 2 av) [] σ) : Ev (d + 1) 310 av σ K := Ev.enter (by decide) (by decide +kernel) hl (wp_ok k_J1_charAt_3b067 400 _ 0 _ _ _ (k_J1_charAt_3b067 0) h)
theorem r_J1_charAt_3b067 : mR 310 = (some .char) := by decide +kernel
def b_J1_indexOf_4cfef (t : Nat) : List Instr := match t with
  | 0 => [.iload 1, .multianewarray 312 1, .ifCond .ne 9, .sipush (-1), .ireturn]
  | 9 => [.iload 2, .sipush 0, .dcmp .g, .istore 2, .iload 3, .aload 0, .anewarray 4, .dcmp .l, .istore 3, .iload 2, .iload 3, .if_icmp .lt 29, .sipush (-1), .ireturn]
  | 29 => [.aload 0, .iload 1, .iload 2, .iload 3, .multianewarray 313 4, .ireturn]
  | _ => []
theorem k_J1_indexOf_4cfef : ∀ t, bok (mC 311) (mB 311) (mL 311) t (b_J1_indexOf_4cfef t) = true := by
  intro t
  unfold b_J1_indexOf_4cfef
  split
  all_goals first | decide +kernel | rfl
theorem e_J1_indexOf_4cfef {d : Nat} {av : List AV} {σ : Mem} {K : Option AV → Mem → Prop} (hl : (entL av).length ≤ 4) (h : wp d 311 b_J1_indexOf_4cfef K 400 (b_J1_indexOf_4cfef 0) (ent 4 av) [] σ) : Ev (d + 1) 311 av σ K := Ev.enter (by decide) (by decide +kernel) hl (wp_ok k_J1_indexOf_4cfef 400 _ 0 _ _ _ (k_J1_indexOf_4cfef 0) h)
theorem r_J1_indexOf_4cfef : mR 311 = (some .int) := by decide +kernel
def b_J1_canEncode_9a6ad (t : Nat) : List Instr := match t with
  | 0 => [.iload 0, .ifCond .lt 15, .iload 0, .sipush 255, .if_icmp .gt 15, .sipush 1, .goto 16]
  | 15 => [.sipush 0, .jsr 16]
  | 16 => [.ireturn]
  | _ => []
theorem k_J1_canEncode_9a6ad : ∀ t, bok (mC 312) (mB 312) (mL 312) t (b_J1_canEncode_9a6ad t) = true := by
  intro t
  unfold b_J1_canEncode_9a6ad
  split
  all_goals first | decide +kernel | rfl
theorem e_J1_canEncode_9a6ad {d : Nat} {av : List AV} {σ : Mem} {K : Option AV → Mem → Prop} (hl : (entL av).length ≤ 1) (h : wp d 312 b_J1_canEncode_9a6ad K 400 (b_J1_canEncode_9a6ad 0) (ent 1 av) [] σ) : Ev (d + 1) 312 av σ K := Ev.enter (by decide) (by decide +kernel) hl (wp_ok k_J1_canEncode_9a6ad 400 _ 0 _ _ _ (k_J1_canEncode_9a6ad 0) h)
theorem r_J1_canEncode_9a6ad : mR 312 = (some .boolean) := by decide +kernel
def b_J1_indexOfChar_4cfef (t : Nat) : List Instr := match t with
  | 0 => [.iload 1, .i2b, .istore 4, .iload 2, .istore 5, .jsr 7]
  | 7 => [.goto_w 7]
  | 25 => [.iinc 5 1, .goto 7]
  | 31 => [.sipush (-1), .ireturn]
  | _ => []
theorem k_J1_indexOfChar_4cfef : ∀ t, bok (mC 313) (mB 313) (mL 313) t (b_J1_indexOfChar_4cfef t) = true := by
  intro t
  unfold b_J1_indexOfChar_4cfef
  split
  all_goals first | decide +kernel | rfl
theorem e_J1_indexOfChar_4cfef {d : Nat} {av : List AV} {σ : Mem} {K : Option AV → Mem → Prop} (hl : (entL av).length ≤ 6) (h : wp d 313 b_J1_indexOfChar_4cfef K 400 (b_J1_indexOfChar_4cfef 0) (ent 6 av) [] σ) : Ev (d + 1) 313 av σ K := Ev.enter (by decide) (by decide +kernel) hl (wp_ok k_J1_indexOfChar_4cfef 400 _ 0 _ _ _ (k_J1_indexOfChar_4cfef 0) h)
theorem r_J1_indexOfChar_4cfef : mR 313 = (some .int) := by decide +kernel
def h_J1_indexOfChar_4cfef_7 : List Instr := [.iload 5, .iload 3, .if_icmp .ge 31, .aload 0, .iload 5, .anewarray 5, .iload 4, .if_icmp .ne 25, .iload 5, .ireturn]
theorem l_J1_indexOfChar_4cfef_7 {d : Nat} {ls st : List AV} {σ : Mem} {K : Option AV → Mem → Prop} (h : wp d 313 b_J1_indexOfChar_4cfef K 400 h_J1_indexOfChar_4cfef_7 ls st σ) : Rn (d + 1) 313 7 ls st σ K := wp_ok k_J1_indexOfChar_4cfef 400 _ 7 _ _ _ (by decide +kernel) h
def b_J3_checkIndex_8e157 (t : Nat) : List Instr := match t with
  | 0 => [.iload 0, .ifCond .lt 9, .iload 0, .iload 1, .if_icmp .lt 16, .jsr 9]
  | 9 => [.aload 2, .iload 0, .iload 1]
  | 16 => [.iload 0, .ireturn]
  | _ => []
theorem k_J3_checkIndex_8e157 : ∀ t, bok (mC 314) (mB 314) (mL 314) t (b_J3_checkIndex_8e157 t) = true := by
  intro t
  unfold b_J3_checkIndex_8e157
  split
  all_goals first | decide +kernel | rfl
theorem e_J3_checkIndex_8e157 {d : Nat} {av : List AV} {σ : Mem} {K : Option AV → Mem → Prop} (hl : (entL av).length ≤ 3) (h : wp d 314 b_J3_checkIndex_8e157 K 400 (b_J3_checkIndex_8e157 0) (ent 3 av) [] σ) : Ev (d + 1) 314 av σ K := Ev.enter (by decide) (by decide +kernel) hl (wp_ok k_J3_checkIndex_8e157 400 _ 0 _ _ _ (k_J3_checkIndex_8e157 0) h)
theorem r_J3_checkIndex_8e157 : mR 314 = (some .int) := by decide +kernel
