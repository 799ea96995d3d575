/-! 11: the code of the methods, resolved, in blocks (written by wip/whole/code.py) -/
def b_X12_see (t : Nat) : List Instr := match t with
  | 0 => [.iload 1, .aload 0, .getfield 776, .if_icmp .ge 17, .aload 0, .checkcast 1580496, .iload 1, .iaload, .goto 18]
  | 17 => [.sipush (-1), .jsr 18]
  | 18 => [.ireturn]
  | _ => []
theorem k_X12_see : ∀ t, bok (mC 164) (mB 164) (mL 164) t (b_X12_see t) = true := by
  intro t
  unfold b_X12_see
  split
  all_goals first | decide +kernel | rfl
theorem e_X12_see {d : Nat} {av : List AV} {σ : Mem} {K : Option AV → Mem → Prop} (hl : (entL av).length ≤ 2) (h : wp d 164 b_X12_see K 400 (b_X12_see 0) (ent 2 av) [] σ) : Ev (d + 1) 164 av σ K := Ev.enter (by decide) (by decide +kernel) hl (wp_ok k_X12_see 400 _ 0 _ _ _ (k_X12_see 0) h)
theorem r_X12_see : mR 164 = (some .int) := by decide +kernel
def b_X12_isSmall (t : Nat) : List Instr := match t with
  | 0 => [.iload 0, .sipush 97, .if_icmp .lt 16, .iload 0, .sipush 122, .if_icmp .gt 16, .sipush 1, .goto 17]
  | 16 => [.sipush 0, .jsr 17]
  | 17 => [.ireturn]
  | _ => []
theorem k_X12_isSmall : ∀ t, bok (mC 165) (mB 165) (mL 165) t (b_X12_isSmall t) = true := by
  intro t
  unfold b_X12_isSmall
  split
  all_goals first | decide +kernel | rfl
theorem e_X12_isSmall {d : Nat} {av : List AV} {σ : Mem} {K : Option AV → Mem → Prop} (hl : (entL av).length ≤ 1) (h : wp d 165 b_X12_isSmall K 400 (b_X12_isSmall 0) (ent 1 av) [] σ) : Ev (d + 1) 165 av σ K := Ev.enter (by decide) (by decide +kernel) hl (wp_ok k_X12_isSmall 400 _ 0 _ _ _ (k_X12_isSmall 0) h)
theorem r_X12_isSmall : mR 165 = (some .boolean) := by decide +kernel
def b_X12_keyAt (t : Nat) : List Instr := match t with
  | 0 => [.sipush 0, .istore 1, .sipush 1, .istore 2, .jsr 4]
  | 4 => [.goto_w 4]
  | 15 => [.goto_w 15]
  | 69 => [.ldc 24, .iload 2, .iload 3, .iadd, .invokevirtual 306, .sipush 32, .if_icmp .ne 97, .aload 0, .getfield 774, .iload 3, .iadd, .aload 0, .getfield 775, .if_icmp .ne 97, .iload 1, .ireturn]
  | 97 => [.goto_w 97]
  | 114 => [.iinc 2 1, .iinc 1 1, .goto 4]
  | 123 => [.sipush 23, .ireturn]
  | _ => []
theorem k_X12_keyAt : ∀ t, bok (mC 166) (mB 166) (mL 166) t (b_X12_keyAt t) = true := by
  intro t
  unfold b_X12_keyAt
  split
  all_goals first | decide +kernel | rfl
theorem e_X12_keyAt {d : Nat} {av : List AV} {σ : Mem} {K : Option AV → Mem → Prop} (hl : (entL av).length ≤ 4) (h : wp d 166 b_X12_keyAt K 400 (b_X12_keyAt 0) (ent 4 av) [] σ) : Ev (d + 1) 166 av σ K := Ev.enter (by decide) (by decide +kernel) hl (wp_ok k_X12_keyAt 400 _ 0 _ _ _ (k_X12_keyAt 0) h)
theorem r_X12_keyAt : mR 166 = (some .int) := by decide +kernel
def h_X12_keyAt_4 : List Instr := [.iload 2, .ldc 24, .invokevirtual 303, .if_icmp .ge 123, .sipush 0, .istore 3, .jsr 15]
theorem l_X12_keyAt_4 {d : Nat} {ls st : List AV} {σ : Mem} {K : Option AV → Mem → Prop} (h : wp d 166 b_X12_keyAt K 400 h_X12_keyAt_4 ls st σ) : Rn (d + 1) 166 4 ls st σ K := wp_ok k_X12_keyAt 400 _ 4 _ _ _ (by decide +kernel) h
def h_X12_keyAt_15 : List Instr := [.ldc 24, .iload 2, .iload 3, .iadd, .invokevirtual 306, .sipush 32, .if_icmp .eq 69, .aload 0, .getfield 774, .iload 3, .iadd, .aload 0, .getfield 775, .if_icmp .ge 69, .aload 0, .checkcast 1580496, .aload 0, .getfield 774, .iload 3, .iadd, .iaload, .ldc 24, .iload 2, .iload 3, .iadd, .invokevirtual 306, .if_icmp .ne 69, .iinc 3 1, .goto 15]
theorem l_X12_keyAt_15 {d : Nat} {ls st : List AV} {σ : Mem} {K : Option AV → Mem → Prop} (h : wp d 166 b_X12_keyAt K 400 h_X12_keyAt_15 ls st σ) : Rn (d + 1) 166 15 ls st σ K := wp_ok k_X12_keyAt 400 _ 15 _ _ _ (by decide +kernel) h
def h_X12_keyAt_97 : List Instr := [.ldc 24, .iload 2, .invokevirtual 306, .sipush 32, .if_icmp .eq 114, .iinc 2 1, .goto 97]
theorem l_X12_keyAt_97 {d : Nat} {ls st : List AV} {σ : Mem} {K : Option AV → Mem → Prop} (h : wp d 166 b_X12_keyAt K 400 h_X12_keyAt_97 ls st σ) : Rn (d + 1) 166 97 ls st σ K := wp_ok k_X12_keyAt 400 _ 97 _ _ _ (by decide +kernel) h
def b_X12_isDigit (t : Nat) : List Instr := match t with
  | 0 => [.iload 0, .sipush 48, .if_icmp .lt 16, .iload 0, .sipush 57, .if_icmp .gt 16, .sipush 1, .goto 17]
  | 16 => [.sipush 0, .jsr 17]
  | 17 => [.ireturn]
  | _ => []
theorem k_X12_isDigit : ∀ t, bok (mC 167) (mB 167) (mL 167) t (b_X12_isDigit t) = true := by
  intro t
  unfold b_X12_isDigit
  split
  all_goals first | decide +kernel | rfl
theorem e_X12_isDigit {d : Nat} {av : List AV} {σ : Mem} {K : Option AV → Mem → Prop} (hl : (entL av).length ≤ 1) (h : wp d 167 b_X12_isDigit K 400 (b_X12_isDigit 0) (ent 1 av) [] σ) : Ev (d + 1) 167 av σ K := Ev.enter (by decide) (by decide +kernel) hl (wp_ok k_X12_isDigit 400 _ 0 _ _ _ (k_X12_isDigit 0) h)
theorem r_X12_isDigit : mR 167 = (some .boolean) := by decide +kernel
def b_X12_eats (t : Nat) : List Instr := match t with
  | 0 => [.aload 0, .iload 1, .invokeinterface 2716 1, .ifCond .ne 10, .sipush 0, .ireturn]
  | 10 => [.aload 0, .invokeinterface 2620 0, .sipush 1, .ireturn]
  | _ => []
theorem k_X12_eats : ∀ t, bok (mC 168) (mB 168) (mL 168) t (b_X12_eats t) = true := by
  intro t
  unfold b_X12_eats
  split
  all_goals first | decide +kernel | rfl
theorem e_X12_eats {d : Nat} {av : List AV} {σ : Mem} {K : Option AV → Mem → Prop} (hl : (entL av).length ≤ 2) (h : wp d 168 b_X12_eats K 400 (b_X12_eats 0) (ent 2 av) [] σ) : Ev (d + 1) 168 av σ K := Ev.enter (by decide) (by decide +kernel) hl (wp_ok k_X12_eats 400 _ 0 _ _ _ (k_X12_eats 0) h)
theorem r_X12_eats : mR 168 = (some .boolean) := by decide +kernel
def b_X12_is (t : Nat) : List Instr := match t with
  | 0 => [.aload 0, .getfield 779, .ifCond .ne 19, .aload 0, .getfield 777, .iload 1, .if_icmp .ne 19, .sipush 1, .goto 20]
  | 19 => [.sipush 0, .jsr 20]
  | 20 => [.ireturn]
  | _ => []
theorem k_X12_is : ∀ t, bok (mC 169) (mB 169) (mL 169) t (b_X12_is t) = true := by
  intro t
  unfold b_X12_is
  split
  all_goals first | decide +kernel | rfl
theorem e_X12_is {d : Nat} {av : List AV} {σ : Mem} {K : Option AV → Mem → Prop} (hl : (entL av).length ≤ 2) (h : wp d 169 b_X12_is K 400 (b_X12_is 0) (ent 2 av) [] σ) : Ev (d + 1) 169 av σ K := Ev.enter (by decide) (by decide +kernel) hl (wp_ok k_X12_is 400 _ 0 _ _ _ (k_X12_is 0) h)
theorem r_X12_is : mR 169 = (some .boolean) := by decide +kernel
def b_X12_fails (t : Nat) : List Instr := match t with
  | 0 => [.aload 0, .getfield 779, .ifCond .eq 8, .return_]
  | 8 => [.aload 0, .aload 0, .getfield 777, .sipush 26, .if_icmp .ne 22, .sipush 1, .goto 23]
  | 22 => [.iload 1, .jsr 23]
  | 23 => [.putfield 779, .aload 0, .aload 0, .getfield 774, .putfield 780, .return_]
  | _ => []
theorem k_X12_fails : ∀ t, bok (mC 170) (mB 170) (mL 170) t (b_X12_fails t) = true := by
  intro t
  unfold b_X12_fails
  split
  all_goals first | decide +kernel | rfl
theorem e_X12_fails {d : Nat} {av : List AV} {σ : Mem} {K : Option AV → Mem → Prop} (hl : (entL av).length ≤ 2) (h : wp d 170 b_X12_fails K 400 (b_X12_fails 0) (ent 2 av) [] σ) : Ev (d + 1) 170 av σ K := Ev.enter (by decide) (by decide +kernel) hl (wp_ok k_X12_fails 400 _ 0 _ _ _ (k_X12_fails 0) h)
theorem r_X12_fails : mR 170 = none := by decide +kernel
def b_X12_takes (t : Nat) : List Instr := match t with
  | 0 => [.aload 0, .sipush 24, .invokeinterface 2716 1, .ifCond .ne 17, .aload 0, .sipush 2, .invokeinterface 2732 1, .goto 37]
  | 17 => [.aload 0, .getfield 778, .i2l, .iload 1, .i2l, .iload 2, .i2l, .multianewarray 162 3, .ifCond .ne 37, .aload 0, .sipush 3, .invokeinterface 2732 1, .jsr 37]
  | 37 => [.aload 0, .getfield 778, .istore 3, .aload 0, .getfield 779, .ifCond .ne 53, .aload 0, .invokeinterface 2620 0, .jsr 53]
  | 53 => [.iload 3, .ireturn]
  | _ => []
theorem k_X12_takes : ∀ t, bok (mC 171) (mB 171) (mL 171) t (b_X12_takes t) = true := by
  intro t
  unfold b_X12_takes
  split
  all_goals first | decide +kernel | rfl
theorem e_X12_takes {d : Nat} {av : List AV} {σ : Mem} {K : Option AV → Mem → Prop} (hl : (entL av).length ≤ 4) (h : wp d 171 b_X12_takes K 400 (b_X12_takes 0) (ent 4 av) [] σ) : Ev (d + 1) 171 av σ K := Ev.enter (by decide) (by decide +kernel) hl (wp_ok k_X12_takes 400 _ 0 _ _ _ (k_X12_takes 0) h)
theorem r_X12_takes : mR 171 = (some .int) := by decide +kernel
def b_X12_ends (t : Nat) : List Instr := match t with
  | 0 => [.aload 0, .sipush 30, .invokeinterface 2700 1, .ifCond .ne 14, .aload 0, .sipush 2, .invokeinterface 2732 1, .jsr 14]
  | 14 => [.aload 0, .checkcast 1582576, .sipush 0, .dup2, .iaload, .sipush 1, .iadd, .iastore, .return_]
  | _ => []
theorem k_X12_ends : ∀ t, bok (mC 172) (mB 172) (mL 172) t (b_X12_ends t) = true := by
  intro t
  unfold b_X12_ends
  split
  all_goals first | decide +kernel | rfl
theorem e_X12_ends {d : Nat} {av : List AV} {σ : Mem} {K : Option AV → Mem → Prop} (hl : (entL av).length ≤ 1) (h : wp d 172 b_X12_ends K 400 (b_X12_ends 0) (ent 1 av) [] σ) : Ev (d + 1) 172 av σ K := Ev.enter (by decide) (by decide +kernel) hl (wp_ok k_X12_ends 400 _ 0 _ _ _ (k_X12_ends 0) h)
theorem r_X12_ends : mR 172 = none := by decide +kernel
def b_X12_readLine (t : Nat) : List Instr := match t with
  | 0 => [.aload 0, .getfield 779, .ifCond .eq 8, .return_]
  | 8 => [.aload 0, .sipush 2, .invokeinterface 2716 1, .ifCond .eq 23, .aload 0, .invokeinterface 2796 0, .goto 143]
  | 23 => [.aload 0, .sipush 4, .invokeinterface 2716 1, .ifCond .eq 38, .aload 0, .invokeinterface 2812 0, .goto 143]
  | 38 => [.aload 0, .sipush 6, .invokeinterface 2716 1, .ifCond .eq 54, .aload 0, .invokeinterface 2828 0, .goto 143]
  | 54 => [.aload 0, .sipush 9, .invokeinterface 2716 1, .ifCond .ne 72, .aload 0, .sipush 10, .invokeinterface 2716 1, .ifCond .eq 86, .jsr 72]
  | 72 => [.aload 0, .aload 0, .getfield 777, .sipush 9, .isub, .invokeinterface 2844 1, .goto 143]
  | 86 => [.aload 0, .sipush 11, .invokeinterface 2700 1, .ifCond .eq 111, .aload 0, .checkcast 1582576, .sipush 3, .aload 0, .sipush 0, .sipush 10, .invokeinterface 2748 2, .iastore, .goto 143]
  | 111 => [.aload 0, .sipush 12, .invokeinterface 2700 1, .ifCond .eq 138, .aload 0, .checkcast 1582576, .sipush 18, .aload 0, .sipush 0, .sipush 999, .invokeinterface 2748 2, .iastore, .goto 143]
  | 138 => [.aload 0, .sipush 2, .invokeinterface 2732 1, .jsr 143]
  | 143 => [.return_]
  | _ => []
theorem k_X12_readLine : ∀ t, bok (mC 173) (mB 173) (mL 173) t (b_X12_readLine t) = true := by
  intro t
  unfold b_X12_readLine
  split
  all_goals first | decide +kernel | rfl
theorem e_X12_readLine {d : Nat} {av : List AV} {σ : Mem} {K : Option AV → Mem → Prop} (hl : (entL av).length ≤ 1) (h : wp d 173 b_X12_readLine K 400 (b_X12_readLine 0) (ent 1 av) [] σ) : Ev (d + 1) 173 av σ K := Ev.enter (by decide) (by decide +kernel) hl (wp_ok k_X12_readLine 400 _ 0 _ _ _ (k_X12_readLine 0) h)
theorem r_X12_readLine : mR 173 = none := by decide +kernel
def b_X12_readPlank (t : Nat) : List Instr := match t with
  | 0 => [.aload 0, .invokeinterface 2620 0, .aload 0, .sipush 0, .aload 0, .checkcast 1582576, .sipush 1, .iaload, .sipush 1, .isub, .invokeinterface 2748 2, .istore 1, .aload 0, .sipush 3, .invokeinterface 2700 1, .ifCond .ne 31, .aload 0, .sipush 2, .invokeinterface 2732 1, .jsr 31]
  | 31 => [.aload 0, .sipush 0, .sipush 999, .invokeinterface 2748 2, .istore 2, .aload 0, .getfield 779, .ifCond .ne 57, .aload 0, .checkcast 1582576, .sipush 10, .iload 1, .iadd, .iload 2, .iastore, .jsr 57]
  | 57 => [.return_]
  | _ => []
theorem k_X12_readPlank : ∀ t, bok (mC 174) (mB 174) (mL 174) t (b_X12_readPlank t) = true := by
  intro t
  unfold b_X12_readPlank
  split
  all_goals first | decide +kernel | rfl
theorem e_X12_readPlank {d : Nat} {av : List AV} {σ : Mem} {K : Option AV → Mem → Prop} (hl : (entL av).length ≤ 3) (h : wp d 174 b_X12_readPlank K 400 (b_X12_readPlank 0) (ent 3 av) [] σ) : Ev (d + 1) 174 av σ K := Ev.enter (by decide) (by decide +kernel) hl (wp_ok k_X12_readPlank 400 _ 0 _ _ _ (k_X12_readPlank 0) h)
theorem r_X12_readPlank : mR 174 = none := by decide +kernel
def b_X12_readPerson (t : Nat) : List Instr := match t with
  | 0 => [.aload 0, .checkcast 1582576, .sipush 2, .iaload, .istore 1, .iload 1, .sipush 6, .if_icmp .ne 18, .aload 0, .sipush 4, .invokeinterface 2732 1, .jsr 18]
  | 18 => [.aload 0, .getfield 779, .ifCond .eq 26, .return_]
  | 26 => [.aload 0, .invokeinterface 2620 0, .jsr 30]
  | 30 => [.goto_w 30]
  | 70 => [.aload 0, .getfield 779, .ifCond .ne 87, .aload 0, .checkcast 1582576, .sipush 2, .dup2, .iaload, .sipush 1, .iadd, .iastore, .jsr 87]
  | 87 => [.return_]
  | _ => []
theorem k_X12_readPerson : ∀ t, bok (mC 175) (mB 175) (mL 175) t (b_X12_readPerson t) = true := by
  intro t
  unfold b_X12_readPerson
  split
  all_goals first | decide +kernel | rfl
theorem e_X12_readPerson {d : Nat} {av : List AV} {σ : Mem} {K : Option AV → Mem → Prop} (hl : (entL av).length ≤ 2) (h : wp d 175 b_X12_readPerson K 400 (b_X12_readPerson 0) (ent 2 av) [] σ) : Ev (d + 1) 175 av σ K := Ev.enter (by decide) (by decide +kernel) hl (wp_ok k_X12_readPerson 400 _ 0 _ _ _ (k_X12_readPerson 0) h)
theorem r_X12_readPerson : mR 175 = none := by decide +kernel
def h_X12_readPerson_30 : List Instr := [.aload 0, .getfield 779, .ifCond .ne 70, .aload 0, .sipush 5, .invokeinterface 2700 1, .ifCond .eq 70, .aload 0, .checkcast 1582576, .sipush 30, .iload 1, .iadd, .aload 0, .sipush 0, .aload 0, .checkcast 1582576, .sipush 1, .iaload, .sipush 1, .iadd, .invokeinterface 2748 2, .iastore, .goto 30]
theorem l_X12_readPerson_30 {d : Nat} {ls st : List AV} {σ : Mem} {K : Option AV → Mem → Prop} (h : wp d 175 b_X12_readPerson K 400 h_X12_readPerson_30 ls st σ) : Rn (d + 1) 175 30 ls st σ K := wp_ok k_X12_readPerson 400 _ 30 _ _ _ (by decide +kernel) h
def b_X12_readPaper (t : Nat) : List Instr := match t with
  | 0 => [.aload 0, .invokeinterface 2620 0, .aload 0, .sipush 0, .aload 0, .checkcast 1582576, .sipush 2, .iaload, .sipush 1, .isub, .invokeinterface 2748 2, .istore 1, .aload 0, .sipush 7, .invokeinterface 2700 1, .ifCond .ne 32, .aload 0, .sipush 2, .invokeinterface 2732 1, .jsr 32]
  | 32 => [.aload 0, .sipush 24, .invokeinterface 2716 1, .ifCond .eq 54, .aload 0, .getfield 778, .iload 1, .if_icmp .ne 54, .aload 0, .sipush 3, .invokeinterface 2732 1, .jsr 54]
  | 54 => [.aload 0, .sipush 0, .aload 0, .checkcast 1582576, .sipush 2, .iaload, .sipush 1, .isub, .invokeinterface 2748 2, .istore 2, .aload 0, .sipush 8, .invokeinterface 2700 1, .ifCond .ne 82, .aload 0, .sipush 2, .invokeinterface 2732 1, .jsr 82]
  | 82 => [.aload 0, .sipush 1, .sipush 99, .invokeinterface 2748 2, .istore 3, .aload 0, .getfield 779, .ifCond .ne 112, .aload 0, .checkcast 1582576, .sipush 36, .sipush 6, .iload 1, .imul, .iadd, .iload 2, .iadd, .iload 3, .iastore, .jsr 112]
  | 112 => [.return_]
  | _ => []
theorem k_X12_readPaper : ∀ t, bok (mC 176) (mB 176) (mL 176) t (b_X12_readPaper t) = true := by
  intro t
  unfold b_X12_readPaper
  split
  all_goals first | decide +kernel | rfl
theorem e_X12_readPaper {d : Nat} {av : List AV} {σ : Mem} {K : Option AV → Mem → Prop} (hl : (entL av).length ≤ 4) (h : wp d 176 b_X12_readPaper K 400 (b_X12_readPaper 0) (ent 4 av) [] σ) : Ev (d + 1) 176 av σ K := Ev.enter (by decide) (by decide +kernel) hl (wp_ok k_X12_readPaper 400 _ 0 _ _ _ (k_X12_readPaper 0) h)
theorem r_X12_readPaper : mR 176 = none := by decide +kernel
def b_X12_readLaw (t : Nat) : List Instr := match t with
  | 0 => [.aload 0, .invokeinterface 2620 0, .aload 0, .sipush 31, .invokeinterface 2700 1, .ifCond .ne 18, .aload 0, .sipush 2, .invokeinterface 2732 1, .jsr 18]
  | 18 => [.aload 0, .checkcast 1582576, .sipush 613, .iaload, .istore 2, .aload 0, .iload 1, .putfield 783, .iload 1, .ifCond .ne 44, .aload 0, .sipush 0, .invokeinterface 2860 1, .goto 49]
  | 44 => [.aload 0, .sipush 0, .invokeinterface 2956 1, .jsr 49]
  | 49 => [.aload 0, .getfield 779, .ifCond .eq 57, .return_]
  | 57 => [.aload 0, .checkcast 1582576, .sipush 4, .iload 1, .iadd, .sipush 1, .iastore, .aload 0, .checkcast 1582576, .sipush 6, .iload 1, .iadd, .iload 2, .iastore, .aload 0, .checkcast 1582576, .sipush 8, .iload 1, .iadd, .aload 0, .checkcast 1582576, .sipush 613, .iaload, .iload 2, .isub, .iastore, .return_]
  | _ => []
theorem k_X12_readLaw : ∀ t, bok (mC 177) (mB 177) (mL 177) t (b_X12_readLaw t) = true := by
  intro t
  unfold b_X12_readLaw
  split
  all_goals first | decide +kernel | rfl
theorem e_X12_readLaw {d : Nat} {av : List AV} {σ : Mem} {K : Option AV → Mem → Prop} (hl : (entL av).length ≤ 3) (h : wp d 177 b_X12_readLaw K 400 (b_X12_readLaw 0) (ent 3 av) [] σ) : Ev (d + 1) 177 av σ K := Ev.enter (by decide) (by decide +kernel) hl (wp_ok k_X12_readLaw 400 _ 0 _ _ _ (k_X12_readLaw 0) h)
theorem r_X12_readLaw : mR 177 = none := by decide +kernel
def b_X12_readSum (t : Nat) : List Instr := match t with
  | 0 => [.aload 0, .iload 1, .invokeinterface 2876 1, .jsr 5]
  | 5 => [.goto_w 5]
  | 23 => [.aload 0, .getfield 777, .sipush 32, .if_icmp .ne 38, .sipush 3000, .goto 41]
  | 38 => [.sipush 3001, .jsr 41]
  | 41 => [.istore 2, .aload 0, .invokeinterface 2620 0, .aload 0, .iload 1, .invokeinterface 2876 1, .aload 0, .iload 2, .invokeinterface 2908 1, .goto 5]
  | 59 => [.return_]
  | _ => []
theorem k_X12_readSum : ∀ t, bok (mC 178) (mB 178) (mL 178) t (b_X12_readSum t) = true := by
  intro t
  unfold b_X12_readSum
  split
  all_goals first | decide +kernel | rfl
theorem e_X12_readSum {d : Nat} {av : List AV} {σ : Mem} {K : Option AV → Mem → Prop} (hl : (entL av).length ≤ 3) (h : wp d 178 b_X12_readSum K 400 (b_X12_readSum 0) (ent 3 av) [] σ) : Ev (d + 1) 178 av σ K := Ev.enter (by decide) (by decide +kernel) hl (wp_ok k_X12_readSum 400 _ 0 _ _ _ (k_X12_readSum 0) h)
theorem r_X12_readSum : mR 178 = none := by decide +kernel
def h_X12_readSum_5 : List Instr := [.aload 0, .sipush 32, .invokeinterface 2716 1, .ifCond .ne 23, .aload 0, .sipush 33, .invokeinterface 2716 1, .ifCond .eq 59, .jsr 23]
theorem l_X12_readSum_5 {d : Nat} {ls st : List AV} {σ : Mem} {K : Option AV → Mem → Prop} (h : wp d 178 b_X12_readSum K 400 h_X12_readSum_5 ls st σ) : Rn (d + 1) 178 5 ls st σ K := wp_ok k_X12_readSum 400 _ 5 _ _ _ (by decide +kernel) h
def b_X12_readTerm (t : Nat) : List Instr := match t with
  | 0 => [.aload 0, .iload 1, .invokeinterface 2892 1, .jsr 5]
  | 5 => [.goto_w 5]
  | 29 => [.return_]
  | _ => []
theorem k_X12_readTerm : ∀ t, bok (mC 179) (mB 179) (mL 179) t (b_X12_readTerm t) = true := by
  intro t
  unfold b_X12_readTerm
  split
  all_goals first | decide +kernel | rfl
theorem e_X12_readTerm {d : Nat} {av : List AV} {σ : Mem} {K : Option AV → Mem → Prop} (hl : (entL av).length ≤ 2) (h : wp d 179 b_X12_readTerm K 400 (b_X12_readTerm 0) (ent 2 av) [] σ) : Ev (d + 1) 179 av σ K := Ev.enter (by decide) (by decide +kernel) hl (wp_ok k_X12_readTerm 400 _ 0 _ _ _ (k_X12_readTerm 0) h)
theorem r_X12_readTerm : mR 179 = none := by decide +kernel
def h_X12_readTerm_5 : List Instr := [.aload 0, .sipush 34, .invokeinterface 2700 1, .ifCond .eq 29, .aload 0, .iload 1, .invokeinterface 2892 1, .aload 0, .sipush 3002, .invokeinterface 2908 1, .goto 5]
theorem l_X12_readTerm_5 {d : Nat} {ls st : List AV} {σ : Mem} {K : Option AV → Mem → Prop} (h : wp d 179 b_X12_readTerm K 400 h_X12_readTerm_5 ls st σ) : Rn (d + 1) 179 5 ls st σ K := wp_ok k_X12_readTerm 400 _ 5 _ _ _ (by decide +kernel) h
def b_X12_readAtom (t : Nat) : List Instr := match t with
  | 0 => [.aload 0, .sipush 24, .invokeinterface 2716 1, .ifCond .eq 24, .aload 0, .aload 0, .getfield 778, .invokeinterface 2908 1, .aload 0, .invokeinterface 2620 0, .goto 113]
  | 24 => [.aload 0, .getfield 779, .ifCond .ne 66, .aload 0, .aload 0, .getfield 777, .invokeinterface 2924 1, .sipush (-1), .if_icmp .eq 66, .aload 0, .sipush 1000, .aload 0, .aload 0, .getfield 777, .invokeinterface 2924 1, .iadd, .invokeinterface 2908 1, .aload 0, .invokeinterface 2620 0, .goto 113]
  | 66 => [.aload 0, .sipush 35, .invokeinterface 2716 1, .ifCond .eq 108, .aload 0, .iload 1, .invokeinterface 2940 1, .ifCond .ne 84, .return_]
  | 84 => [.aload 0, .iload 1, .sipush 1, .iadd, .invokeinterface 2860 1, .aload 0, .sipush 36, .invokeinterface 2700 1, .ifCond .ne 113, .aload 0, .sipush 2, .invokeinterface 2732 1, .goto 113]
  | 108 => [.aload 0, .sipush 2, .invokeinterface 2732 1, .jsr 113]
  | 113 => [.return_]
  | _ => []
theorem k_X12_readAtom : ∀ t, bok (mC 180) (mB 180) (mL 180) t (b_X12_readAtom t) = true := by
  intro t
  unfold b_X12_readAtom
  split
  all_goals first | decide +kernel | rfl
theorem e_X12_readAtom {d : Nat} {av : List AV} {σ : Mem} {K : Option AV → Mem → Prop} (hl : (entL av).length ≤ 2) (h : wp d 180 b_X12_readAtom K 400 (b_X12_readAtom 0) (ent 2 av) [] σ) : Ev (d + 1) 180 av σ K := Ev.enter (by decide) (by decide +kernel) hl (wp_ok k_X12_readAtom 400 _ 0 _ _ _ (k_X12_readAtom 0) h)
theorem r_X12_readAtom : mR 180 = none := by decide +kernel
def b_X12_codes (t : Nat) : List Instr := match t with
  | 0 => [.aload 0, .getfield 779, .ifCond .eq 8, .return_]
  | 8 => [.aload 0, .checkcast 1582576, .sipush 614, .aload 0, .checkcast 1582576, .sipush 613, .iaload, .iadd, .iload 1, .iastore, .aload 0, .checkcast 1582576, .sipush 613, .dup2, .iaload, .sipush 1, .iadd, .iastore, .return_]
  | _ => []
theorem k_X12_codes : ∀ t, bok (mC 181) (mB 181) (mL 181) t (b_X12_codes t) = true := by
  intro t
  unfold b_X12_codes
  split
  all_goals first | decide +kernel | rfl
theorem e_X12_codes {d : Nat} {av : List AV} {σ : Mem} {K : Option AV → Mem → Prop} (hl : (entL av).length ≤ 2) (h : wp d 181 b_X12_codes K 400 (b_X12_codes 0) (ent 2 av) [] σ) : Ev (d + 1) 181 av σ K := Ev.enter (by decide) (by decide +kernel) hl (wp_ok k_X12_codes 400 _ 0 _ _ _ (k_X12_codes 0) h)
theorem r_X12_codes : mR 181 = none := by decide +kernel
def b_X12_wordOf (t : Nat) : List Instr := match t with
  | 0 => [.iload 1, .tableswitch 178 2 19 #[133, 178, 178, 178, 178, 178, 178, 178, 178, 178, 90, 88, 92, 94, 107, 120, 148, 163]]
  | 88 => [.sipush 0, .ireturn]
  | 90 => [.sipush 1, .ireturn]
  | 92 => [.sipush 2, .ireturn]
  | 94 => [.aload 0, .getfield 783, .ifCond .ne 105, .sipush 3, .goto 106]
  | 105 => [.sipush (-1), .jsr 106]
  | 106 => [.ireturn]
  | 107 => [.aload 0, .getfield 783, .ifCond .ne 118, .sipush 4, .goto 119]
  | 118 => [.sipush (-1), .jsr 119]
  | 119 => [.ireturn]
  | 120 => [.aload 0, .getfield 783, .ifCond .ne 131, .sipush 5, .goto 132]
  | 131 => [.sipush (-1), .jsr 132]
  | 132 => [.ireturn]
  | 133 => [.aload 0, .getfield 783, .sipush 1, .if_icmp .ne 146, .sipush 6, .goto 147]
  | 146 => [.sipush (-1), .jsr 147]
  | 147 => [.ireturn]
  | 148 => [.aload 0, .getfield 783, .sipush 1, .if_icmp .ne 161, .sipush 7, .goto 162]
  | 161 => [.sipush (-1), .jsr 162]
  | 162 => [.ireturn]
  | 163 => [.aload 0, .getfield 783, .sipush 1, .if_icmp .ne 176, .sipush 8, .goto 177]
  | 176 => [.sipush (-1), .jsr 177]
  | 177 => [.ireturn]
  | 178 => [.sipush (-1), .ireturn]
  | _ => []
theorem k_X12_wordOf : ∀ t, bok (mC 182) (mB 182) (mL 182) t (b_X12_wordOf t) = true := by
  intro t
  unfold b_X12_wordOf
  split
  all_goals first | decide +kernel | rfl
theorem e_X12_wordOf {d : Nat} {av : List AV} {σ : Mem} {K : Option AV → Mem → Prop} (hl : (entL av).length ≤ 2) (h : wp d 182 b_X12_wordOf K 400 (b_X12_wordOf 0) (ent 2 av) [] σ) : Ev (d + 1) 182 av σ K := Ev.enter (by decide) (by decide +kernel) hl (wp_ok k_X12_wordOf 400 _ 0 _ _ _ (k_X12_wordOf 0) h)
theorem r_X12_wordOf : mR 182 = (some .int) := by decide +kernel
def b_X12_goesIn (t : Nat) : List Instr := match t with
  | 0 => [.iload 1, .sipush 6, .if_icmp .ne 11, .aload 0, .sipush 4, .invokeinterface 2732 1, .jsr 11]
  | 11 => [.aload 0, .getfield 779, .ifCond .ne 22, .aload 0, .invokeinterface 2620 0, .jsr 22]
  | 22 => [.aload 0, .getfield 779, .ifCond .ne 33, .sipush 1, .goto 34]
  | 33 => [.sipush 0, .jsr 34]
  | 34 => [.ireturn]
  | _ => []
theorem k_X12_goesIn : ∀ t, bok (mC 183) (mB 183) (mL 183) t (b_X12_goesIn t) = true := by
  intro t
  unfold b_X12_goesIn
  split
  all_goals first | decide +kernel | rfl
theorem e_X12_goesIn {d : Nat} {av : List AV} {σ : Mem} {K : Option AV → Mem → Prop} (hl : (entL av).length ≤ 2) (h : wp d 183 b_X12_goesIn K 400 (b_X12_goesIn 0) (ent 2 av) [] σ) : Ev (d + 1) 183 av σ K := Ev.enter (by decide) (by decide +kernel) hl (wp_ok k_X12_goesIn 400 _ 0 _ _ _ (k_X12_goesIn 0) h)
theorem r_X12_goesIn : mR 183 = (some .boolean) := by decide +kernel
def b_X12_readTruth (t : Nat) : List Instr := match t with
  | 0 => [.aload 0, .iload 1, .invokeinterface 2972 1, .jsr 5]
  | 5 => [.goto_w 5]
  | 29 => [.return_]
  | _ => []
theorem k_X12_readTruth : ∀ t, bok (mC 184) (mB 184) (mL 184) t (b_X12_readTruth t) = true := by
  intro t
  unfold b_X12_readTruth
  split
  all_goals first | decide +kernel | rfl
theorem e_X12_readTruth {d : Nat} {av : List AV} {σ : Mem} {K : Option AV → Mem → Prop} (hl : (entL av).length ≤ 2) (h : wp d 184 b_X12_readTruth K 400 (b_X12_readTruth 0) (ent 2 av) [] σ) : Ev (d + 1) 184 av σ K := Ev.enter (by decide) (by decide +kernel) hl (wp_ok k_X12_readTruth 400 _ 0 _ _ _ (k_X12_readTruth 0) h)
theorem r_X12_readTruth : mR 184 = none := by decide +kernel
def h_X12_readTruth_5 : List Instr := [.aload 0, .sipush 21, .invokeinterface 2700 1, .ifCond .eq 29, .aload 0, .iload 1, .invokeinterface 2972 1, .aload 0, .sipush 3008, .invokeinterface 2908 1, .goto 5]
theorem l_X12_readTruth_5 {d : Nat} {ls st : List AV} {σ : Mem} {K : Option AV → Mem → Prop} (h : wp d 184 b_X12_readTruth K 400 h_X12_readTruth_5 ls st σ) : Rn (d + 1) 184 5 ls st σ K := wp_ok k_X12_readTruth 400 _ 5 _ _ _ (by decide +kernel) h
def b_X12_readBoth (t : Nat) : List Instr := match t with
  | 0 => [.aload 0, .iload 1, .invokeinterface 2988 1, .jsr 5]
  | 5 => [.goto_w 5]
  | 29 => [.return_]
  | _ => []
theorem k_X12_readBoth : ∀ t, bok (mC 185) (mB 185) (mL 185) t (b_X12_readBoth t) = true := by
  intro t
  unfold b_X12_readBoth
  split
  all_goals first | decide +kernel | rfl
theorem e_X12_readBoth {d : Nat} {av : List AV} {σ : Mem} {K : Option AV → Mem → Prop} (hl : (entL av).length ≤ 2) (h : wp d 185 b_X12_readBoth K 400 (b_X12_readBoth 0) (ent 2 av) [] σ) : Ev (d + 1) 185 av σ K := Ev.enter (by decide) (by decide +kernel) hl (wp_ok k_X12_readBoth 400 _ 0 _ _ _ (k_X12_readBoth 0) h)
theorem r_X12_readBoth : mR 185 = none := by decide +kernel
def h_X12_readBoth_5 : List Instr := [.aload 0, .sipush 20, .invokeinterface 2700 1, .ifCond .eq 29, .aload 0, .iload 1, .invokeinterface 2988 1, .aload 0, .sipush 3007, .invokeinterface 2908 1, .goto 5]
theorem l_X12_readBoth_5 {d : Nat} {ls st : List AV} {σ : Mem} {K : Option AV → Mem → Prop} (h : wp d 185 b_X12_readBoth K 400 h_X12_readBoth_5 ls st σ) : Rn (d + 1) 185 5 ls st σ K := wp_ok k_X12_readBoth 400 _ 5 _ _ _ (by decide +kernel) h
def b_X12_readUnit (t : Nat) : List Instr := match t with
  | 0 => [.aload 0, .sipush 22, .invokeinterface 2716 1, .ifCond .eq 33, .aload 0, .iload 1, .invokeinterface 2940 1, .ifCond .ne 18, .return_]
  | 18 => [.aload 0, .iload 1, .sipush 1, .iadd, .invokeinterface 2988 1, .aload 0, .sipush 3006, .invokeinterface 2908 1, .return_]
  | 33 => [.aload 0, .sipush 37, .invokeinterface 2716 1, .ifCond .eq 73, .aload 0, .iload 1, .invokeinterface 2940 1, .ifCond .ne 51, .return_]
  | 51 => [.aload 0, .iload 1, .sipush 1, .iadd, .invokeinterface 2956 1, .aload 0, .sipush 38, .invokeinterface 2700 1, .ifCond .ne 72, .aload 0, .sipush 2, .invokeinterface 2732 1, .jsr 72]
  | 72 => [.return_]
  | 73 => [.aload 0, .iload 1, .invokeinterface 2860 1, .aload 0, .sipush 39, .invokeinterface 2716 1, .ifCond .eq 93, .sipush 3003, .goto 111]
  | 93 => [.aload 0, .sipush 40, .invokeinterface 2716 1, .ifCond .eq 108, .sipush 3004, .goto 111]
  | 108 => [.sipush 3005, .jsr 111]
  | 111 => [.istore 2, .aload 0, .sipush 39, .invokeinterface 2716 1, .ifCond .ne 139, .aload 0, .sipush 40, .invokeinterface 2716 1, .ifCond .ne 139, .aload 0, .sipush 41, .invokeinterface 2716 1, .ifCond .eq 146, .jsr 139]
  | 139 => [.aload 0, .invokeinterface 2620 0, .goto 151]
  | 146 => [.aload 0, .sipush 2, .invokeinterface 2732 1, .jsr 151]
  | 151 => [.aload 0, .iload 1, .invokeinterface 2860 1, .aload 0, .iload 2, .invokeinterface 2908 1, .return_]
  | _ => []
theorem k_X12_readUnit : ∀ t, bok (mC 186) (mB 186) (mL 186) t (b_X12_readUnit t) = true := by
  intro t
  unfold b_X12_readUnit
  split
  all_goals first | decide +kernel | rfl
theorem e_X12_readUnit {d : Nat} {av : List AV} {σ : Mem} {K : Option AV → Mem → Prop} (hl : (entL av).length ≤ 3) (h : wp d 186 b_X12_readUnit K 400 (b_X12_readUnit 0) (ent 3 av) [] σ) : Ev (d + 1) 186 av σ K := Ev.enter (by decide) (by decide +kernel) hl (wp_ok k_X12_readUnit 400 _ 0 _ _ _ (k_X12_readUnit 0) h)
theorem r_X12_readUnit : mR 186 = none := by decide +kernel
def b_X12_breaks (t : Nat) : List Instr := match t with
  | 0 => [.aload 0, .invokeinterface 3020 0, .aload 0, .invokeinterface 3164 0, .istore 1, .jsr 9]
  | 9 => [.goto_w 9]
  | 29 => [.goto_w 29]
  | 64 => [.iinc 2 1, .goto 29]
  | 70 => [.aload 0, .invokeinterface 3020 0, .aload 0, .invokeinterface 3164 0, .istore 1, .goto 9]
  | 82 => [.return_]
  | _ => []
theorem k_X12_breaks : ∀ t, bok (mC 187) (mB 187) (mL 187) t (b_X12_breaks t) = true := by
  intro t
  unfold b_X12_breaks
  split
  all_goals first | decide +kernel | rfl
theorem e_X12_breaks {d : Nat} {av : List AV} {σ : Mem} {K : Option AV → Mem → Prop} (hl : (entL av).length ≤ 3) (h : wp d 187 b_X12_breaks K 400 (b_X12_breaks 0) (ent 3 av) [] σ) : Ev (d + 1) 187 av σ K := Ev.enter (by decide) (by decide +kernel) hl (wp_ok k_X12_breaks 400 _ 0 _ _ _ (k_X12_breaks 0) h)
theorem r_X12_breaks : mR 187 = none := by decide +kernel
def h_X12_breaks_9 : List Instr := [.iload 1, .sipush (-1), .if_icmp .eq 82, .aload 0, .checkcast 1576336, .sipush 21, .dup2, .iaload, .sipush 1, .iload 1, .ishl, .ior, .iastore, .sipush 0, .istore 2, .jsr 29]
theorem l_X12_breaks_9 {d : Nat} {ls st : List AV} {σ : Mem} {K : Option AV → Mem → Prop} (h : wp d 187 b_X12_breaks K 400 h_X12_breaks_9 ls st σ) : Rn (d + 1) 187 9 ls st σ K := wp_ok k_X12_breaks 400 _ 9 _ _ _ (by decide +kernel) h
def h_X12_breaks_29 : List Instr := [.iload 2, .aload 0, .checkcast 1576336, .sipush 2, .iaload, .if_icmp .ge 70, .aload 0, .checkcast 1576336, .sipush 30, .iload 2, .iadd, .iaload, .iload 1, .sipush 1, .iadd, .if_icmp .ne 64, .aload 0, .checkcast 1576336, .sipush 30, .iload 2, .iadd, .sipush (-1), .iastore, .jsr 64]
theorem l_X12_breaks_29 {d : Nat} {ls st : List AV} {σ : Mem} {K : Option AV → Mem → Prop} (h : wp d 187 b_X12_breaks K 400 h_X12_breaks_29 ls st σ) : Rn (d + 1) 187 29 ls st σ K := wp_ok k_X12_breaks 400 _ 29 _ _ _ (by decide +kernel) h
def b_X12_laysNow (t : Nat) : List Instr := match t with
  | 0 => [.sipush 0, .istore 1, .jsr 2]
  | 2 => [.goto_w 2]
  | 21 => [.sipush 0, .istore 1, .jsr 23]
  | 23 => [.goto_w 23]
  | 65 => [.iinc 1 1, .goto 23]
  | 71 => [.return_]
  | _ => []
theorem k_X12_laysNow : ∀ t, bok (mC 188) (mB 188) (mL 188) t (b_X12_laysNow t) = true := by
  intro t
  unfold b_X12_laysNow
  split
  all_goals first | decide +kernel | rfl
theorem e_X12_laysNow {d : Nat} {av : List AV} {σ : Mem} {K : Option AV → Mem → Prop} (hl : (entL av).length ≤ 2) (h : wp d 188 b_X12_laysNow K 400 (b_X12_laysNow 0) (ent 2 av) [] σ) : Ev (d + 1) 188 av σ K := Ev.enter (by decide) (by decide +kernel) hl (wp_ok k_X12_laysNow 400 _ 0 _ _ _ (k_X12_laysNow 0) h)
theorem r_X12_laysNow : mR 188 = none := by decide +kernel
def h_X12_laysNow_2 : List Instr := [.iload 1, .sipush 8, .if_icmp .ge 21, .aload 0, .checkcast 1611344, .iload 1, .sipush 0, .iastore, .iinc 1 1, .goto 2]
theorem l_X12_laysNow_2 {d : Nat} {ls st : List AV} {σ : Mem} {K : Option AV → Mem → Prop} (h : wp d 188 b_X12_laysNow K 400 h_X12_laysNow_2 ls st σ) : Rn (d + 1) 188 2 ls st σ K := wp_ok k_X12_laysNow 400 _ 2 _ _ _ (by decide +kernel) h
def h_X12_laysNow_23 : List Instr := [.iload 1, .aload 0, .checkcast 1576336, .sipush 2, .iaload, .if_icmp .ge 71, .aload 0, .iload 1, .invokeinterface 3036 1, .ifCond .eq 65, .aload 0, .checkcast 1611344, .aload 0, .checkcast 1576336, .sipush 30, .iload 1, .iadd, .iaload, .sipush 1, .isub, .dup2, .iaload, .aload 0, .iload 1, .invokeinterface 3052 1, .iadd, .iastore, .jsr 65]
theorem l_X12_laysNow_23 {d : Nat} {ls st : List AV} {σ : Mem} {K : Option AV → Mem → Prop} (h : wp d 188 b_X12_laysNow K 400 h_X12_laysNow_23 ls st σ) : Rn (d + 1) 188 23 ls st σ K := wp_ok k_X12_laysNow 400 _ 23 _ _ _ (by decide +kernel) h
def b_X12_isOn (t : Nat) : List Instr := match t with
  | 0 => [.aload 0, .checkcast 1576336, .sipush 30, .iload 1, .iadd, .iaload, .i2l, .jsr_w 1, .aload 0, .checkcast 1576336, .sipush 1, .iaload, .i2l, .multianewarray 162 3, .ireturn]
  | _ => []
theorem k_X12_isOn : ∀ t, bok (mC 189) (mB 189) (mL 189) t (b_X12_isOn t) = true := by
  intro t
  unfold b_X12_isOn
  split
  all_goals first | decide +kernel | rfl
theorem e_X12_isOn {d : Nat} {av : List AV} {σ : Mem} {K : Option AV → Mem → Prop} (hl : (entL av).length ≤ 2) (h : wp d 189 b_X12_isOn K 400 (b_X12_isOn 0) (ent 2 av) [] σ) : Ev (d + 1) 189 av σ K := Ev.enter (by decide) (by decide +kernel) hl (wp_ok k_X12_isOn 400 _ 0 _ _ _ (k_X12_isOn 0) h)
theorem r_X12_isOn : mR 189 = (some .boolean) := by decide +kernel
def b_X12_weightOf (t : Nat) : List Instr := match t with
  | 0 => [.aload 0, .checkcast 1576336, .sipush 4, .iaload, .ifCond .ne 15, .aload 0, .iload 1, .invokeinterface 3068 1, .ireturn]
  | 15 => [.aload 0, .checkcast 1609264, .sipush 3, .aload 0, .iload 1, .invokeinterface 3068 1, .iastore, .aload 0, .checkcast 1609264, .sipush 4, .aload 0, .iload 1, .invokeinterface 3100 1, .iastore, .aload 0, .checkcast 1609264, .sipush 5, .aload 0, .iload 1, .invokeinterface 3116 1, .iastore, .aload 0, .sipush 0, .iload 1, .invokeinterface 3132 2, .istore 2, .iload 2, .ifCond .ge 63, .sipush 0, .goto 77]
  | 63 => [.iload 2, .sipush 9999, .if_icmp .le 76, .sipush 9999, .goto 77]
  | 76 => [.iload 2, .jsr 77]
  | 77 => [.ireturn]
  | _ => []
theorem k_X12_weightOf : ∀ t, bok (mC 190) (mB 190) (mL 190) t (b_X12_weightOf t) = true := by
  intro t
  unfold b_X12_weightOf
  split
  all_goals first | decide +kernel | rfl
theorem e_X12_weightOf {d : Nat} {av : List AV} {σ : Mem} {K : Option AV → Mem → Prop} (hl : (entL av).length ≤ 3) (h : wp d 190 b_X12_weightOf K 400 (b_X12_weightOf 0) (ent 3 av) [] σ) : Ev (d + 1) 190 av σ K := Ev.enter (by decide) (by decide +kernel) hl (wp_ok k_X12_weightOf 400 _ 0 _ _ _ (k_X12_weightOf 0) h)
theorem r_X12_weightOf : mR 190 = (some .int) := by decide +kernel
def b_X12_debtOf (t : Nat) : List Instr := match t with
  | 0 => [.sipush 0, .istore 2, .sipush 0, .istore 3, .jsr 4]
  | 4 => [.goto_w 4]
  | 29 => [.iload 2, .ireturn]
  | _ => []
theorem k_X12_debtOf : ∀ t, bok (mC 191) (mB 191) (mL 191) t (b_X12_debtOf t) = true := by
  intro t
  unfold b_X12_debtOf
  split
  all_goals first | decide +kernel | rfl
theorem e_X12_debtOf {d : Nat} {av : List AV} {σ : Mem} {K : Option AV → Mem → Prop} (hl : (entL av).length ≤ 4) (h : wp d 191 b_X12_debtOf K 400 (b_X12_debtOf 0) (ent 4 av) [] σ) : Ev (d + 1) 191 av σ K := Ev.enter (by decide) (by decide +kernel) hl (wp_ok k_X12_debtOf 400 _ 0 _ _ _ (k_X12_debtOf 0) h)
theorem r_X12_debtOf : mR 191 = (some .int) := by decide +kernel
def h_X12_debtOf_4 : List Instr := [.iload 3, .aload 0, .checkcast 1576336, .sipush 2, .iaload, .if_icmp .ge 29, .iload 2, .aload 0, .iload 1, .iload 3, .invokeinterface 3084 2, .iadd, .istore 2, .iinc 3 1, .goto 4]
theorem l_X12_debtOf_4 {d : Nat} {ls st : List AV} {σ : Mem} {K : Option AV → Mem → Prop} (h : wp d 191 b_X12_debtOf K 400 h_X12_debtOf_4 ls st σ) : Rn (d + 1) 191 4 ls st σ K := wp_ok k_X12_debtOf 400 _ 4 _ _ _ (by decide +kernel) h
def b_X12_debt (t : Nat) : List Instr := match t with
  | 0 => [.aload 0, .checkcast 1576336, .sipush 36, .sipush 6, .iload 1, .imul, .iadd, .iload 2, .iadd, .iaload, .ireturn]
  | _ => []
theorem k_X12_debt : ∀ t, bok (mC 192) (mB 192) (mL 192) t (b_X12_debt t) = true := by
  intro t
  unfold b_X12_debt
  split
  all_goals first | decide +kernel | rfl
theorem e_X12_debt {d : Nat} {av : List AV} {σ : Mem} {K : Option AV → Mem → Prop} (hl : (entL av).length ≤ 3) (h : wp d 192 b_X12_debt K 400 (b_X12_debt 0) (ent 3 av) [] σ) : Ev (d + 1) 192 av σ K := Ev.enter (by decide) (by decide +kernel) hl (wp_ok k_X12_debt 400 _ 0 _ _ _ (k_X12_debt 0) h)
theorem r_X12_debt : mR 192 = (some .int) := by decide +kernel
def b_X12_papersOf (t : Nat) : List Instr := match t with
  | 0 => [.sipush 0, .istore 2, .sipush 0, .istore 3, .jsr 4]
  | 4 => [.goto_w 4]
  | 28 => [.sipush 0, .jsr 29]
  | 29 => [.iadd, .istore 2, .iinc 3 1, .goto 4]
  | 37 => [.iload 2, .ireturn]
  | _ => []
theorem k_X12_papersOf : ∀ t, bok (mC 193) (mB 193) (mL 193) t (b_X12_papersOf t) = true := by
  intro t
  unfold b_X12_papersOf
  split
  all_goals first | decide +kernel | rfl
theorem e_X12_papersOf {d : Nat} {av : List AV} {σ : Mem} {K : Option AV → Mem → Prop} (hl : (entL av).length ≤ 4) (h : wp d 193 b_X12_papersOf K 400 (b_X12_papersOf 0) (ent 4 av) [] σ) : Ev (d + 1) 193 av σ K := Ev.enter (by decide) (by decide +kernel) hl (wp_ok k_X12_papersOf 400 _ 0 _ _ _ (k_X12_papersOf 0) h)
theorem r_X12_papersOf : mR 193 = (some .int) := by decide +kernel
def h_X12_papersOf_4 : List Instr := [.iload 3, .aload 0, .checkcast 1576336, .sipush 2, .iaload, .if_icmp .ge 37, .iload 2, .aload 0, .iload 1, .iload 3, .invokeinterface 3084 2, .ifCond .le 28, .sipush 1, .goto 29]
theorem l_X12_papersOf_4 {d : Nat} {ls st : List AV} {σ : Mem} {K : Option AV → Mem → Prop} (h : wp d 193 b_X12_papersOf K 400 h_X12_papersOf_4 ls st σ) : Rn (d + 1) 193 4 ls st σ K := wp_ok k_X12_papersOf 400 _ 4 _ _ _ (by decide +kernel) h
def b_X12_owedTo (t : Nat) : List Instr := match t with
  | 0 => [.sipush 0, .istore 2, .sipush 0, .istore 3, .jsr 4]
  | 4 => [.goto_w 4]
  | 29 => [.iload 2, .ireturn]
  | _ => []
theorem k_X12_owedTo : ∀ t, bok (mC 194) (mB 194) (mL 194) t (b_X12_owedTo t) = true := by
  intro t
  unfold b_X12_owedTo
  split
  all_goals first | decide +kernel | rfl
theorem e_X12_owedTo {d : Nat} {av : List AV} {σ : Mem} {K : Option AV → Mem → Prop} (hl : (entL av).length ≤ 4) (h : wp d 194 b_X12_owedTo K 400 (b_X12_owedTo 0) (ent 4 av) [] σ) : Ev (d + 1) 194 av σ K := Ev.enter (by decide) (by decide +kernel) hl (wp_ok k_X12_owedTo 400 _ 0 _ _ _ (k_X12_owedTo 0) h)
theorem r_X12_owedTo : mR 194 = (some .int) := by decide +kernel
def h_X12_owedTo_4 : List Instr := [.iload 3, .aload 0, .checkcast 1576336, .sipush 2, .iaload, .if_icmp .ge 29, .iload 2, .aload 0, .iload 3, .iload 1, .invokeinterface 3084 2, .iadd, .istore 2, .iinc 3 1, .goto 4]
theorem l_X12_owedTo_4 {d : Nat} {ls st : List AV} {σ : Mem} {K : Option AV → Mem → Prop} (h : wp d 194 b_X12_owedTo K 400 h_X12_owedTo_4 ls st σ) : Rn (d + 1) 194 4 ls st σ K := wp_ok k_X12_owedTo 400 _ 4 _ _ _ (by decide +kernel) h
def b_X12_reckons (t : Nat) : List Instr := match t with
  | 0 => [.aload 0, .checkcast 1609264, .sipush 0, .iload 2, .iastore, .aload 0, .checkcast 1609264, .sipush 1, .aload 0, .checkcast 1576336, .sipush 18, .iaload, .sipush 7, .irem, .iastore, .aload 0, .checkcast 1609264, .sipush 2, .aload 0, .checkcast 1576336, .sipush 19, .iaload, .iastore, .sipush 0, .istore 3, .sipush 0, .istore 4, .jsr 41]
  | 41 => [.goto_w 41]
  | 104 => [.aload 0, .checkcast 1609264, .iload 5, .sipush 1000, .isub, .iaload, .jsr 115]
  | 115 => [.iastore, .iinc 3 1, .goto 181]
  | 122 => [.iload 5, .sipush 3006, .if_icmp .ne 151, .aload 0, .checkcast 1607184, .iload 3, .sipush 1, .isub, .sipush 1, .aload 0, .checkcast 1607184, .iload 3, .sipush 1, .isub, .iaload, .isub, .iastore, .goto 181]
  | 151 => [.iinc 3 (-1), .aload 0, .checkcast 1607184, .iload 3, .sipush 1, .isub, .iload 5, .aload 0, .checkcast 1607184, .iload 3, .sipush 1, .isub, .iaload, .aload 0, .checkcast 1607184, .iload 3, .iaload, .multianewarray 196 3, .iastore, .jsr 181]
  | 181 => [.iinc 4 1, .goto 41]
  | 187 => [.aload 0, .checkcast 1607184, .sipush 0, .iaload, .ireturn]
  | _ => []
theorem k_X12_reckons : ∀ t, bok (mC 195) (mB 195) (mL 195) t (b_X12_reckons t) = true := by
  intro t
  unfold b_X12_reckons
  split
  all_goals first | decide +kernel | rfl
theorem e_X12_reckons {d : Nat} {av : List AV} {σ : Mem} {K : Option AV → Mem → Prop} (hl : (entL av).length ≤ 6) (h : wp d 195 b_X12_reckons K 400 (b_X12_reckons 0) (ent 6 av) [] σ) : Ev (d + 1) 195 av σ K := Ev.enter (by decide) (by decide +kernel) hl (wp_ok k_X12_reckons 400 _ 0 _ _ _ (k_X12_reckons 0) h)
theorem r_X12_reckons : mR 195 = (some .int) := by decide +kernel
def h_X12_reckons_41 : List Instr := [.iload 4, .aload 0, .checkcast 1576336, .sipush 8, .iload 1, .iadd, .iaload, .if_icmp .ge 187, .aload 0, .checkcast 1576336, .sipush 614, .aload 0, .checkcast 1576336, .sipush 6, .iload 1, .iadd, .iaload, .iadd, .iload 4, .iadd, .iaload, .istore 5, .iload 5, .sipush 3000, .if_icmp .ge 122, .aload 0, .checkcast 1607184, .iload 3, .iload 5, .sipush 1000, .if_icmp .ge 104, .iload 5, .goto 115]
theorem l_X12_reckons_41 {d : Nat} {ls st : List AV} {σ : Mem} {K : Option AV → Mem → Prop} (h : wp d 195 b_X12_reckons K 400 h_X12_reckons_41 ls st σ) : Rn (d + 1) 195 41 ls st σ K := wp_ok k_X12_reckons 400 _ 41 _ _ _ (by decide +kernel) h
def b_X12_between (t : Nat) : List Instr := match t with
  | 0 => [.iload 0, .tableswitch 81 3003 3008 #[40, 51, 62, 81, 73, 77]]
  | 40 => [.iload 1, .iload 2, .if_icmp .ne 49, .sipush 1, .goto 50]
  | 49 => [.sipush 0, .jsr 50]
  | 50 => [.ireturn]
  | 51 => [.iload 1, .iload 2, .if_icmp .ge 60, .sipush 1, .goto 61]
  | 60 => [.sipush 0, .jsr 61]
  | 61 => [.ireturn]
  | 62 => [.iload 1, .iload 2, .if_icmp .le 71, .sipush 1, .goto 72]
  | 71 => [.sipush 0, .jsr 72]
  | 72 => [.ireturn]
  | 73 => [.iload 1, .iload 2, .iand, .ireturn]
  | 77 => [.iload 1, .iload 2, .ior, .ireturn]
  | 81 => [.iload 0, .sipush 3000, .if_icmp .ne 96, .iload 1, .i2l, .iload 2, .i2l, .ladd, .goto 116]
  | 96 => [.iload 0, .sipush 3001, .if_icmp .ne 111, .iload 1, .i2l, .iload 2, .i2l, .lsub, .goto 116]
  | 111 => [.iload 1, .i2l, .iload 2, .i2l, .lmul, .jsr 116]
  | 116 => [.lstore 3, .lload 3, .jsr_w 1000000, .lcmp, .ifCond .le 131, .jsr_w 1000000, .goto 146]
  | 131 => [.lload 3, .jsr_w (-1000000), .lcmp, .ifCond .ge 145, .jsr_w (-1000000), .goto 146]
  | 145 => [.lload 3, .jsr 146]
  | 146 => [.l2i, .ireturn]
  | _ => []
theorem k_X12_between : ∀ t, bok (mC 196) (mB 196) (mL 196) t (b_X12_between t) = true := by
  intro t
  unfold b_X12_between
  split
  all_goals first | decide +kernel | rfl
theorem e_X12_between {d : Nat} {av : List AV} {σ : Mem} {K : Option AV → Mem → Prop} (hl : (entL av).length ≤ 5) (h : wp d 196 b_X12_between K 400 (b_X12_between 0) (ent 5 av) [] σ) : Ev (d + 1) 196 av σ K := Ev.enter (by decide) (by decide +kernel) hl (wp_ok k_X12_between 400 _ 0 _ _ _ (k_X12_between 0) h)
theorem r_X12_between : mR 196 = (some .int) := by decide +kernel
def b_X12_firstOver (t : Nat) : List Instr := match t with
  | 0 => [.sipush 0, .istore 1, .jsr 2]
  | 2 => [.goto_w 2]
  | 42 => [.iinc 1 1, .goto 2]
  | 48 => [.sipush (-1), .ireturn]
  | _ => []
theorem k_X12_firstOver : ∀ t, bok (mC 197) (mB 197) (mL 197) t (b_X12_firstOver t) = true := by
  intro t
  unfold b_X12_firstOver
  split
  all_goals first | decide +kernel | rfl
theorem e_X12_firstOver {d : Nat} {av : List AV} {σ : Mem} {K : Option AV → Mem → Prop} (hl : (entL av).length ≤ 2) (h : wp d 197 b_X12_firstOver K 400 (b_X12_firstOver 0) (ent 2 av) [] σ) : Ev (d + 1) 197 av σ K := Ev.enter (by decide) (by decide +kernel) hl (wp_ok k_X12_firstOver 400 _ 0 _ _ _ (k_X12_firstOver 0) h)
theorem r_X12_firstOver : mR 197 = (some .int) := by decide +kernel
def h_X12_firstOver_2 : List Instr := [.iload 1, .aload 0, .checkcast 1576336, .sipush 1, .iaload, .if_icmp .ge 48, .aload 0, .checkcast 1576336, .sipush 21, .iaload, .i2l, .iload 1, .multianewarray 198 2, .ifCond .ne 42, .aload 0, .iload 1, .invokeinterface 3196 1, .aload 0, .iload 1, .invokeinterface 3212 1, .if_icmp .le 42, .iload 1, .ireturn]
theorem l_X12_firstOver_2 {d : Nat} {ls st : List AV} {σ : Mem} {K : Option AV → Mem → Prop} (h : wp d 197 b_X12_firstOver K 400 h_X12_firstOver_2 ls st σ) : Rn (d + 1) 197 2 ls st σ K := wp_ok k_X12_firstOver 400 _ 2 _ _ _ (by decide +kernel) h
def b_X12_isIn (t : Nat) : List Instr := match t with
  | 0 => [.lload 0, .iload 2, .lshr, .jsr_w 1, .land, .jsr_w 1, .lcmp, .ifCond .ne 14, .sipush 1, .goto 15]
  | 14 => [.sipush 0, .jsr 15]
  | 15 => [.ireturn]
  | _ => []
theorem k_X12_isIn : ∀ t, bok (mC 198) (mB 198) (mL 198) t (b_X12_isIn t) = true := by
  intro t
  unfold b_X12_isIn
  split
  all_goals first | decide +kernel | rfl
theorem e_X12_isIn {d : Nat} {av : List AV} {σ : Mem} {K : Option AV → Mem → Prop} (hl : (entL av).length ≤ 3) (h : wp d 198 b_X12_isIn K 400 (b_X12_isIn 0) (ent 3 av) [] σ) : Ev (d + 1) 198 av σ K := Ev.enter (by decide) (by decide +kernel) hl (wp_ok k_X12_isIn 400 _ 0 _ _ _ (k_X12_isIn 0) h)
theorem r_X12_isIn : mR 198 = (some .boolean) := by decide +kernel
def b_X12_loadOf (t : Nat) : List Instr := match t with
  | 0 => [.aload 0, .checkcast 1611344, .iload 1, .iaload, .iload 1, .ifCond .le 21, .aload 0, .checkcast 1611344, .iload 1, .sipush 1, .isub, .iaload, .goto 22]
  | 21 => [.sipush 0, .jsr 22]
  | 22 => [.iload 1, .aload 0, .checkcast 1576336, .sipush 1, .iaload, .sipush 1, .isub, .if_icmp .ge 45, .aload 0, .checkcast 1611344, .iload 1, .sipush 1, .iadd, .iaload, .goto 46]
  | 45 => [.sipush 0, .jsr 46]
  | 46 => [.iadd, .sipush 2, .idiv, .iadd, .ireturn]
  | _ => []
theorem k_X12_loadOf : ∀ t, bok (mC 199) (mB 199) (mL 199) t (b_X12_loadOf t) = true := by
  intro t
  unfold b_X12_loadOf
  split
  all_goals first | decide +kernel | rfl
theorem e_X12_loadOf {d : Nat} {av : List AV} {σ : Mem} {K : Option AV → Mem → Prop} (hl : (entL av).length ≤ 2) (h : wp d 199 b_X12_loadOf K 400 (b_X12_loadOf 0) (ent 2 av) [] σ) : Ev (d + 1) 199 av σ K := Ev.enter (by decide) (by decide +kernel) hl (wp_ok k_X12_loadOf 400 _ 0 _ _ _ (k_X12_loadOf 0) h)
theorem r_X12_loadOf : mR 199 = (some .int) := by decide +kernel
def b_X12_bearsOf (t : Nat) : List Instr := match t with
  | 0 => [.aload 0, .checkcast 1576336, .sipush 10, .iload 1, .iadd, .iaload, .sipush 10, .aload 0, .checkcast 1576336, .sipush 22, .iload 1, .iadd, .iaload, .imul, .iadd, .ireturn]
  | _ => []
theorem k_X12_bearsOf : ∀ t, bok (mC 200) (mB 200) (mL 200) t (b_X12_bearsOf t) = true := by
  intro t
  unfold b_X12_bearsOf
  split
  all_goals first | decide +kernel | rfl
theorem e_X12_bearsOf {d : Nat} {av : List AV} {σ : Mem} {K : Option AV → Mem → Prop} (hl : (entL av).length ≤ 2) (h : wp d 200 b_X12_bearsOf K 400 (b_X12_bearsOf 0) (ent 2 av) [] σ) : Ev (d + 1) 200 av σ K := Ev.enter (by decide) (by decide +kernel) hl (wp_ok k_X12_bearsOf 400 _ 0 _ _ _ (k_X12_bearsOf 0) h)
theorem r_X12_bearsOf : mR 200 = (some .int) := by decide +kernel
def b_X12_fault (t : Nat) : List Instr := match t with
  | 0 => [.aload 0, .sipush 0, .putfield 768, .iload 1, .ifCond .ne 16, .aload 0, .getfield 781, .goto 29]
  | 16 => [.iload 1, .sipush 1, .if_icmp .ne 28, .aload 0, .getfield 782, .goto 29]
  | 28 => [.sipush (-1), .jsr 29]
  | 29 => [.ireturn]
  | _ => []
theorem k_X12_fault : ∀ t, bok (mC 201) (mB 201) (mL 201) t (b_X12_fault t) = true := by
  intro t
  unfold b_X12_fault
  split
  all_goals first | decide +kernel | rfl
theorem e_X12_fault {d : Nat} {av : List AV} {σ : Mem} {K : Option AV → Mem → Prop} (hl : (entL av).length ≤ 2) (h : wp d 201 b_X12_fault K 400 (b_X12_fault 0) (ent 2 av) [] σ) : Ev (d + 1) 201 av σ K := Ev.enter (by decide) (by decide +kernel) hl (wp_ok k_X12_fault 400 _ 0 _ _ _ (k_X12_fault 0) h)
theorem r_X12_fault : mR 201 = (some .int) := by decide +kernel
def b_X12_person (t : Nat) : List Instr := match t with
  | 0 => [.aload 0, .sipush 0, .putfield 768, .aload 0, .iload 1, .i2l, .invokeinterface 3260 1, .ifCond .ne 17, .sipush (-2), .ireturn]
  | 17 => [.iload 2, .tableswitch 86 0 4 #[52, 62, 68, 74, 80]]
  | 52 => [.aload 0, .checkcast 1576336, .sipush 30, .iload 1, .iadd, .iaload, .ireturn]
  | 62 => [.aload 0, .iload 1, .invokeinterface 3068 1, .ireturn]
  | 68 => [.aload 0, .iload 1, .invokeinterface 3100 1, .ireturn]
  | 74 => [.aload 0, .iload 1, .invokeinterface 3116 1, .ireturn]
  | 80 => [.aload 0, .iload 1, .invokeinterface 3052 1, .ireturn]
  | 86 => [.sipush (-2), .ireturn]
  | _ => []
theorem k_X12_person : ∀ t, bok (mC 202) (mB 202) (mL 202) t (b_X12_person t) = true := by
  intro t
  unfold b_X12_person
  split
  all_goals first | decide +kernel | rfl
theorem e_X12_person {d : Nat} {av : List AV} {σ : Mem} {K : Option AV → Mem → Prop} (hl : (entL av).length ≤ 3) (h : wp d 202 b_X12_person K 400 (b_X12_person 0) (ent 3 av) [] σ) : Ev (d + 1) 202 av σ K := Ev.enter (by decide) (by decide +kernel) hl (wp_ok k_X12_person 400 _ 0 _ _ _ (k_X12_person 0) h)
theorem r_X12_person : mR 202 = (some .int) := by decide +kernel
def b_X12_isPerson (t : Nat) : List Instr := match t with
  | 0 => [.lload 1, .jsr_w 0, .aload 0, .checkcast 1576336, .sipush 2, .iaload, .sipush 1, .isub, .i2l, .multianewarray 162 3, .ireturn]
  | _ => []
theorem k_X12_isPerson : ∀ t, bok (mC 203) (mB 203) (mL 203) t (b_X12_isPerson t) = true := by
  intro t
  unfold b_X12_isPerson
  split
  all_goals first | decide +kernel | rfl
theorem e_X12_isPerson {d : Nat} {av : List AV} {σ : Mem} {K : Option AV → Mem → Prop} (hl : (entL av).length ≤ 3) (h : wp d 203 b_X12_isPerson K 400 (b_X12_isPerson 0) (ent 3 av) [] σ) : Ev (d + 1) 203 av σ K := Ev.enter (by decide) (by decide +kernel) hl (wp_ok k_X12_isPerson 400 _ 0 _ _ _ (k_X12_isPerson 0) h)
theorem r_X12_isPerson : mR 203 = (some .boolean) := by decide +kernel
def b_X12_owes (t : Nat) : List Instr := match t with
  | 0 => [.aload 0, .sipush 0, .putfield 768, .aload 0, .iload 1, .i2l, .invokeinterface 3260 1, .ifCond .eq 32, .aload 0, .iload 2, .i2l, .invokeinterface 3260 1, .ifCond .eq 32, .aload 0, .iload 1, .iload 2, .invokeinterface 3084 2, .goto 34]
  | 32 => [.sipush (-2), .jsr 34]
  | 34 => [.ireturn]
  | _ => []
theorem k_X12_owes : ∀ t, bok (mC 204) (mB 204) (mL 204) t (b_X12_owes t) = true := by
  intro t
  unfold b_X12_owes
  split
  all_goals first | decide +kernel | rfl
theorem e_X12_owes {d : Nat} {av : List AV} {σ : Mem} {K : Option AV → Mem → Prop} (hl : (entL av).length ≤ 3) (h : wp d 204 b_X12_owes K 400 (b_X12_owes 0) (ent 3 av) [] σ) : Ev (d + 1) 204 av σ K := Ev.enter (by decide) (by decide +kernel) hl (wp_ok k_X12_owes 400 _ 0 _ _ _ (k_X12_owes 0) h)
theorem r_X12_owes : mR 204 = (some .int) := by decide +kernel
def b_X12_plank (t : Nat) : List Instr := match t with
  | 0 => [.aload 0, .sipush 0, .putfield 768, .aload 0, .iload 1, .i2l, .invokeinterface 3308 1, .ifCond .ne 17, .sipush (-2), .ireturn]
  | 17 => [.aload 0, .invokeinterface 3020 0, .iload 2, .tableswitch 95 0 3 #[52, 58, 64, 85]]
  | 52 => [.aload 0, .iload 1, .invokeinterface 3212 1, .ireturn]
  | 58 => [.aload 0, .iload 1, .invokeinterface 3196 1, .ireturn]
  | 64 => [.aload 0, .checkcast 1576336, .sipush 21, .iaload, .i2l, .iload 1, .multianewarray 198 2, .ifCond .eq 83, .sipush 1, .goto 84]
  | 83 => [.sipush 0, .jsr 84]
  | 84 => [.ireturn]
  | 85 => [.aload 0, .checkcast 1576336, .sipush 22, .iload 1, .iadd, .iaload, .ireturn]
  | 95 => [.sipush (-2), .ireturn]
  | _ => []
theorem k_X12_plank : ∀ t, bok (mC 205) (mB 205) (mL 205) t (b_X12_plank t) = true := by
  intro t
  unfold b_X12_plank
  split
  all_goals first | decide +kernel | rfl
theorem e_X12_plank {d : Nat} {av : List AV} {σ : Mem} {K : Option AV → Mem → Prop} (hl : (entL av).length ≤ 3) (h : wp d 205 b_X12_plank K 400 (b_X12_plank 0) (ent 3 av) [] σ) : Ev (d + 1) 205 av σ K := Ev.enter (by decide) (by decide +kernel) hl (wp_ok k_X12_plank 400 _ 0 _ _ _ (k_X12_plank 0) h)
theorem r_X12_plank : mR 205 = (some .int) := by decide +kernel
def b_X12_isPlank (t : Nat) : List Instr := match t with
  | 0 => [.lload 1, .jsr_w 0, .aload 0, .checkcast 1576336, .sipush 1, .iaload, .sipush 1, .isub, .i2l, .multianewarray 162 3, .ireturn]
  | _ => []
theorem k_X12_isPlank : ∀ t, bok (mC 206) (mB 206) (mL 206) t (b_X12_isPlank t) = true := by
  intro t
  unfold b_X12_isPlank
  split
  all_goals first | decide +kernel | rfl
theorem e_X12_isPlank {d : Nat} {av : List AV} {σ : Mem} {K : Option AV → Mem → Prop} (hl : (entL av).length ≤ 3) (h : wp d 206 b_X12_isPlank K 400 (b_X12_isPlank 0) (ent 3 av) [] σ) : Ev (d + 1) 206 av σ K := Ev.enter (by decide) (by decide +kernel) hl (wp_ok k_X12_isPlank 400 _ 0 _ _ _ (k_X12_isPlank 0) h)
theorem r_X12_isPlank : mR 206 = (some .boolean) := by decide +kernel
def b_X12_seed (t : Nat) : List Instr := match t with
  | 0 => [.aload 0, .sipush 0, .putfield 768, .aload 0, .invokeinterface 3340 0, .aload 0, .checkcast 1576336, .sipush 20, .iload 1, .iastore, .aload 0, .invokeinterface 3356 0, .aload 0, .checkcast 1613424, .sipush 2, .iaload, .ireturn]
  | _ => []
theorem k_X12_seed : ∀ t, bok (mC 207) (mB 207) (mL 207) t (b_X12_seed t) = true := by
  intro t
  unfold b_X12_seed
  split
  all_goals first | decide +kernel | rfl
theorem e_X12_seed {d : Nat} {av : List AV} {σ : Mem} {K : Option AV → Mem → Prop} (hl : (entL av).length ≤ 2) (h : wp d 207 b_X12_seed K 400 (b_X12_seed 0) (ent 2 av) [] σ) : Ev (d + 1) 207 av σ K := Ev.enter (by decide) (by decide +kernel) hl (wp_ok k_X12_seed 400 _ 0 _ _ _ (k_X12_seed 0) h)
theorem r_X12_seed : mR 207 = (some .int) := by decide +kernel
def b_X12_keeps (t : Nat) : List Instr := match t with
  | 0 => [.sipush 0, .istore 1, .jsr 2]
  | 2 => [.goto_w 2]
  | 29 => [.return_]
  | _ => []
theorem k_X12_keeps : ∀ t, bok (mC 208) (mB 208) (mL 208) t (b_X12_keeps t) = true := by
  intro t
  unfold b_X12_keeps
  split
  all_goals first | decide +kernel | rfl
theorem e_X12_keeps {d : Nat} {av : List AV} {σ : Mem} {K : Option AV → Mem → Prop} (hl : (entL av).length ≤ 2) (h : wp d 208 b_X12_keeps K 400 (b_X12_keeps 0) (ent 2 av) [] σ) : Ev (d + 1) 208 av σ K := Ev.enter (by decide) (by decide +kernel) hl (wp_ok k_X12_keeps 400 _ 0 _ _ _ (k_X12_keeps 0) h)
theorem r_X12_keeps : mR 208 = none := by decide +kernel
def h_X12_keeps_2 : List Instr := [.iload 1, .sipush 54, .if_icmp .ge 29, .aload 0, .checkcast 1613424, .iload 1, .aload 0, .checkcast 1576336, .sipush 18, .iload 1, .iadd, .iaload, .iastore, .iinc 1 1, .goto 2]
theorem l_X12_keeps_2 {d : Nat} {ls st : List AV} {σ : Mem} {K : Option AV → Mem → Prop} (h : wp d 208 b_X12_keeps K 400 h_X12_keeps_2 ls st σ) : Rn (d + 1) 208 2 ls st σ K := wp_ok k_X12_keeps 400 _ 2 _ _ _ (by decide +kernel) h
def b_X12_notes (t : Nat) : List Instr := match t with
  | 0 => [.aload 0, .checkcast 1576336, .sipush 72, .iaload, .sipush 10, .if_icmp .ne 56, .sipush 0, .istore 1, .jsr 14]
  | 14 => [.goto_w 14]
  | 45 => [.aload 0, .checkcast 1576336, .sipush 72, .dup2, .iaload, .sipush 1, .isub, .iastore, .jsr 56]
  | 56 => [.sipush 0, .istore 1, .jsr 58]
  | 58 => [.goto_w 58]
  | 96 => [.aload 0, .checkcast 1576336, .sipush 72, .dup2, .iaload, .sipush 1, .iadd, .iastore, .return_]
  | _ => []
theorem k_X12_notes : ∀ t, bok (mC 209) (mB 209) (mL 209) t (b_X12_notes t) = true := by
  intro t
  unfold b_X12_notes
  split
  all_goals first | decide +kernel | rfl
theorem e_X12_notes {d : Nat} {av : List AV} {σ : Mem} {K : Option AV → Mem → Prop} (hl : (entL av).length ≤ 2) (h : wp d 209 b_X12_notes K 400 (b_X12_notes 0) (ent 2 av) [] σ) : Ev (d + 1) 209 av σ K := Ev.enter (by decide) (by decide +kernel) hl (wp_ok k_X12_notes 400 _ 0 _ _ _ (k_X12_notes 0) h)
theorem r_X12_notes : mR 209 = none := by decide +kernel
def h_X12_notes_14 : List Instr := [.iload 1, .sipush 486, .if_icmp .ge 45, .aload 0, .checkcast 1576336, .sipush 73, .iload 1, .iadd, .aload 0, .checkcast 1576336, .sipush 127, .iload 1, .iadd, .iaload, .iastore, .iinc 1 1, .goto 14]
theorem l_X12_notes_14 {d : Nat} {ls st : List AV} {σ : Mem} {K : Option AV → Mem → Prop} (h : wp d 209 b_X12_notes K 400 h_X12_notes_14 ls st σ) : Rn (d + 1) 209 14 ls st σ K := wp_ok k_X12_notes 400 _ 14 _ _ _ (by decide +kernel) h
def h_X12_notes_58 : List Instr := [.iload 1, .sipush 54, .if_icmp .ge 96, .aload 0, .checkcast 1576336, .sipush 73, .sipush 54, .aload 0, .checkcast 1576336, .sipush 72, .iaload, .imul, .iadd, .iload 1, .iadd, .aload 0, .checkcast 1613424, .iload 1, .iaload, .iastore, .iinc 1 1, .goto 58]
theorem l_X12_notes_58 {d : Nat} {ls st : List AV} {σ : Mem} {K : Option AV → Mem → Prop} (h : wp d 209 b_X12_notes K 400 h_X12_notes_58 ls st σ) : Rn (d + 1) 209 58 ls st σ K := wp_ok k_X12_notes 400 _ 58 _ _ _ (by decide +kernel) h
def b_X12_step (t : Nat) : List Instr := match t with
  | 0 => [.aload 0, .sipush 0, .putfield 768, .iload 2, .ifCond .eq 13, .sipush 1, .goto 14]
  | 13 => [.sipush (-1), .jsr 14]
  | 14 => [.istore 3, .aload 0, .iload 1, .i2l, .iload 3, .invokeinterface 3388 2, .istore 4, .iload 4, .ifCond .eq 35, .sipush (-10), .iload 4, .isub, .ireturn]
  | 35 => [.aload 0, .invokeinterface 3340 0, .aload 0, .iload 1, .iload 3, .invokeinterface 3500 2, .aload 0, .invokeinterface 3356 0, .aload 0, .checkcast 1576336, .sipush 30, .iload 1, .iadd, .iaload, .ireturn]
  | _ => []
theorem k_X12_step : ∀ t, bok (mC 210) (mB 210) (mL 210) t (b_X12_step t) = true := by
  intro t
  unfold b_X12_step
  split
  all_goals first | decide +kernel | rfl
theorem e_X12_step {d : Nat} {av : List AV} {σ : Mem} {K : Option AV → Mem → Prop} (hl : (entL av).length ≤ 5) (h : wp d 210 b_X12_step K 400 (b_X12_step 0) (ent 5 av) [] σ) : Ev (d + 1) 210 av σ K := Ev.enter (by decide) (by decide +kernel) hl (wp_ok k_X12_step 400 _ 0 _ _ _ (k_X12_step 0) h)
theorem r_X12_step : mR 210 = (some .int) := by decide +kernel
def b_X12_whyStep (t : Nat) : List Instr := match t with
  | 0 => [.aload 0, .lload 1, .invokeinterface 3260 1, .ifCond .ne 10, .sipush 1, .ireturn]
  | 10 => [.lload 1, .l2i, .istore 4, .aload 0, .checkcast 1576336, .sipush 30, .iload 4, .iadd, .iaload, .iload 3, .iadd, .istore 5, .aload 0, .iload 4, .invokeinterface 3404 1, .ifCond .ne 65, .iload 5, .i2l, .jsr_w 0, .aload 0, .checkcast 1576336, .sipush 1, .iaload, .sipush 1, .iadd, .i2l, .multianewarray 162 3, .ifCond .eq 65, .aload 0, .iload 5, .invokeinterface 3420 1, .ifCond .eq 67, .jsr 65]
  | 65 => [.sipush 2, .ireturn]
  | 67 => [.aload 0, .iload 4, .iload 5, .invokeinterface 3436 2, .ifCond .ne 82, .sipush 3, .goto 96]
  | 82 => [.aload 0, .iload 4, .invokeinterface 3484 1, .ifCond .eq 95, .sipush 4, .goto 96]
  | 95 => [.sipush 0, .jsr 96]
  | 96 => [.ireturn]
  | _ => []
theorem k_X12_whyStep : ∀ t, bok (mC 211) (mB 211) (mL 211) t (b_X12_whyStep t) = true := by
  intro t
  unfold b_X12_whyStep
  split
  all_goals first | decide +kernel | rfl
theorem e_X12_whyStep {d : Nat} {av : List AV} {σ : Mem} {K : Option AV → Mem → Prop} (hl : (entL av).length ≤ 6) (h : wp d 211 b_X12_whyStep K 400 (b_X12_whyStep 0) (ent 6 av) [] σ) : Ev (d + 1) 211 av σ K := Ev.enter (by decide) (by decide +kernel) hl (wp_ok k_X12_whyStep 400 _ 0 _ _ _ (k_X12_whyStep 0) h)
theorem r_X12_whyStep : mR 211 = (some .int) := by decide +kernel
def b_X12_isFallen (t : Nat) : List Instr := match t with
  | 0 => [.aload 0, .checkcast 1576336, .sipush 30, .iload 1, .iadd, .iaload, .sipush (-1), .if_icmp .ne 17, .sipush 1, .goto 18]
  | 17 => [.sipush 0, .jsr 18]
  | 18 => [.ireturn]
  | _ => []
theorem k_X12_isFallen : ∀ t, bok (mC 212) (mB 212) (mL 212) t (b_X12_isFallen t) = true := by
  intro t
  unfold b_X12_isFallen
  split
  all_goals first | decide +kernel | rfl
theorem e_X12_isFallen {d : Nat} {av : List AV} {σ : Mem} {K : Option AV → Mem → Prop} (hl : (entL av).length ≤ 2) (h : wp d 212 b_X12_isFallen K 400 (b_X12_isFallen 0) (ent 2 av) [] σ) : Ev (d + 1) 212 av σ K := Ev.enter (by decide) (by decide +kernel) hl (wp_ok k_X12_isFallen 400 _ 0 _ _ _ (k_X12_isFallen 0) h)
theorem r_X12_isFallen : mR 212 = (some .boolean) := by decide +kernel
def b_X12_isPlankBroken (t : Nat) : List Instr := match t with
  | 0 => [.iload 1, .i2l, .jsr_w 1, .aload 0, .checkcast 1576336, .sipush 1, .iaload, .i2l, .multianewarray 162 3, .ifCond .eq 37, .aload 0, .checkcast 1576336, .sipush 21, .iaload, .i2l, .iload 1, .sipush 1, .isub, .multianewarray 198 2, .ifCond .eq 37, .sipush 1, .goto 38]
  | 37 => [.sipush 0, .jsr 38]
  | 38 => [.ireturn]
  | _ => []
theorem k_X12_isPlankBroken : ∀ t, bok (mC 213) (mB 213) (mL 213) t (b_X12_isPlankBroken t) = true := by
  intro t
  unfold b_X12_isPlankBroken
  split
  all_goals first | decide +kernel | rfl
theorem e_X12_isPlankBroken {d : Nat} {av : List AV} {σ : Mem} {K : Option AV → Mem → Prop} (hl : (entL av).length ≤ 2) (h : wp d 213 b_X12_isPlankBroken K 400 (b_X12_isPlankBroken 0) (ent 2 av) [] σ) : Ev (d + 1) 213 av σ K := Ev.enter (by decide) (by decide +kernel) hl (wp_ok k_X12_isPlankBroken 400 _ 0 _ _ _ (k_X12_isPlankBroken 0) h)
theorem r_X12_isPlankBroken : mR 213 = (some .boolean) := by decide +kernel
def b_X12_mayGo (t : Nat) : List Instr := match t with
  | 0 => [.iload 2, .i2l, .jsr_w 1, .aload 0, .checkcast 1576336, .sipush 1, .iaload, .i2l, .multianewarray 162 3, .ifCond .eq 32, .aload 0, .iload 1, .iload 2, .sipush 1, .isub, .aload 0, .iload 1, .invokeinterface 3452 1, .invokeinterface 3468 3, .ifCond .eq 36, .jsr 32]
  | 32 => [.sipush 1, .goto 37]
  | 36 => [.sipush 0, .jsr 37]
  | 37 => [.ireturn]
  | _ => []
theorem k_X12_mayGo : ∀ t, bok (mC 214) (mB 214) (mL 214) t (b_X12_mayGo t) = true := by
  intro t
  unfold b_X12_mayGo
  split
  all_goals first | decide +kernel | rfl
theorem e_X12_mayGo {d : Nat} {av : List AV} {σ : Mem} {K : Option AV → Mem → Prop} (hl : (entL av).length ≤ 3) (h : wp d 214 b_X12_mayGo K 400 (b_X12_mayGo 0) (ent 3 av) [] σ) : Ev (d + 1) 214 av σ K := Ev.enter (by decide) (by decide +kernel) hl (wp_ok k_X12_mayGo 400 _ 0 _ _ _ (k_X12_mayGo 0) h)
theorem r_X12_mayGo : mR 214 = (some .boolean) := by decide +kernel
def b_X12_othersOn (t : Nat) : List Instr := match t with
  | 0 => [.sipush 0, .istore 2, .sipush 0, .istore 3, .jsr 4]
  | 4 => [.goto_w 4]
  | 32 => [.sipush 0, .jsr 33]
  | 33 => [.iadd, .istore 2, .iinc 3 1, .goto 4]
  | 41 => [.iload 2, .ireturn]
  | _ => []
theorem k_X12_othersOn : ∀ t, bok (mC 215) (mB 215) (mL 215) t (b_X12_othersOn t) = true := by
  intro t
  unfold b_X12_othersOn
  split
  all_goals first | decide +kernel | rfl
theorem e_X12_othersOn {d : Nat} {av : List AV} {σ : Mem} {K : Option AV → Mem → Prop} (hl : (entL av).length ≤ 4) (h : wp d 215 b_X12_othersOn K 400 (b_X12_othersOn 0) (ent 4 av) [] σ) : Ev (d + 1) 215 av σ K := Ev.enter (by decide) (by decide +kernel) hl (wp_ok k_X12_othersOn 400 _ 0 _ _ _ (k_X12_othersOn 0) h)
theorem r_X12_othersOn : mR 215 = (some .int) := by decide +kernel
def h_X12_othersOn_4 : List Instr := [.iload 3, .aload 0, .checkcast 1576336, .sipush 2, .iaload, .if_icmp .ge 41, .iload 2, .iload 3, .iload 1, .if_icmp .eq 32, .aload 0, .iload 3, .invokeinterface 3036 1, .ifCond .eq 32, .sipush 1, .goto 33]
theorem l_X12_othersOn_4 {d : Nat} {ls st : List AV} {σ : Mem} {K : Option AV → Mem → Prop} (h : wp d 215 b_X12_othersOn K 400 h_X12_othersOn_4 ls st σ) : Rn (d + 1) 215 4 ls st σ K := wp_ok k_X12_othersOn 400 _ 4 _ _ _ (by decide +kernel) h
def b_X12_mayCome (t : Nat) : List Instr := match t with
  | 0 => [.aload 0, .checkcast 1576336, .sipush 5, .iaload, .ifCond .ne 11, .sipush 1, .ireturn]
  | 11 => [.aload 0, .iload 1, .invokeinterface 3052 1, .istore 4, .aload 0, .checkcast 1609264, .sipush 6, .iload 2, .iastore, .aload 0, .checkcast 1609264, .sipush 7, .iload 4, .iastore, .aload 0, .checkcast 1609264, .sipush 8, .iload 3, .iastore, .aload 0, .sipush 1, .iload 1, .invokeinterface 3132 2, .sipush 1, .if_icmp .ne 57, .sipush 1, .goto 58]
  | 57 => [.sipush 0, .jsr 58]
  | 58 => [.ireturn]
  | _ => []
theorem k_X12_mayCome : ∀ t, bok (mC 216) (mB 216) (mL 216) t (b_X12_mayCome t) = true := by
  intro t
  unfold b_X12_mayCome
  split
  all_goals first | decide +kernel | rfl
theorem e_X12_mayCome {d : Nat} {av : List AV} {σ : Mem} {K : Option AV → Mem → Prop} (hl : (entL av).length ≤ 5) (h : wp d 216 b_X12_mayCome K 400 (b_X12_mayCome 0) (ent 5 av) [] σ) : Ev (d + 1) 216 av σ K := Ev.enter (by decide) (by decide +kernel) hl (wp_ok k_X12_mayCome 400 _ 0 _ _ _ (k_X12_mayCome 0) h)
theorem r_X12_mayCome : mR 216 = (some .boolean) := by decide +kernel
def b_X12_isTied (t : Nat) : List Instr := match t with
  | 0 => [.sipush 0, .istore 2, .jsr 2]
  | 2 => [.goto_w 2]
  | 45 => [.iinc 2 1, .goto 2]
  | 51 => [.sipush 0, .ireturn]
  | _ => []
theorem k_X12_isTied : ∀ t, bok (mC 217) (mB 217) (mL 217) t (b_X12_isTied t) = true := by
  intro t
  unfold b_X12_isTied
  split
  all_goals first | decide +kernel | rfl
theorem e_X12_isTied {d : Nat} {av : List AV} {σ : Mem} {K : Option AV → Mem → Prop} (hl : (entL av).length ≤ 3) (h : wp d 217 b_X12_isTied K 400 (b_X12_isTied 0) (ent 3 av) [] σ) : Ev (d + 1) 217 av σ K := Ev.enter (by decide) (by decide +kernel) hl (wp_ok k_X12_isTied 400 _ 0 _ _ _ (k_X12_isTied 0) h)
theorem r_X12_isTied : mR 217 = (some .boolean) := by decide +kernel
def h_X12_isTied_2 : List Instr := [.iload 2, .aload 0, .checkcast 1576336, .sipush 2, .iaload, .if_icmp .ge 51, .iload 2, .iload 1, .if_icmp .eq 45, .aload 0, .iload 2, .invokeinterface 3404 1, .ifCond .ne 45, .aload 0, .iload 1, .iload 2, .invokeinterface 3084 2, .ifCond .le 45, .aload 0, .iload 2, .iload 1, .invokeinterface 3084 2, .ifCond .le 45, .sipush 1, .ireturn]
theorem l_X12_isTied_2 {d : Nat} {ls st : List AV} {σ : Mem} {K : Option AV → Mem → Prop} (h : wp d 217 b_X12_isTied K 400 h_X12_isTied_2 ls st σ) : Rn (d + 1) 217 2 ls st σ K := wp_ok k_X12_isTied 400 _ 2 _ _ _ (by decide +kernel) h
def b_X12_goes (t : Nat) : List Instr := match t with
  | 0 => [.aload 0, .checkcast 1576336, .sipush 30, .iload 1, .iadd, .dup2, .iaload, .iload 2, .iadd, .iastore, .aload 0, .invokeinterface 3004 0, .return_]
  | _ => []
theorem k_X12_goes : ∀ t, bok (mC 218) (mB 218) (mL 218) t (b_X12_goes t) = true := by
  intro t
  unfold b_X12_goes
  split
  all_goals first | decide +kernel | rfl
theorem e_X12_goes {d : Nat} {av : List AV} {σ : Mem} {K : Option AV → Mem → Prop} (hl : (entL av).length ≤ 3) (h : wp d 218 b_X12_goes K 400 (b_X12_goes 0) (ent 3 av) [] σ) : Ev (d + 1) 218 av σ K := Ev.enter (by decide) (by decide +kernel) hl (wp_ok k_X12_goes 400 _ 0 _ _ _ (k_X12_goes 0) h)
theorem r_X12_goes : mR 218 = none := by decide +kernel
def b_X12_hand (t : Nat) : List Instr := match t with
  | 0 => [.aload 0, .sipush 0, .putfield 768, .aload 0, .iload 1, .i2l, .iload 2, .i2l, .invokeinterface 3532 2, .istore 3, .iload 3, .ifCond .eq 23, .sipush (-10), .iload 3, .isub, .ireturn]
  | 23 => [.aload 0, .invokeinterface 3340 0, .aload 0, .iload 1, .iload 2, .invokeinterface 3564 2, .aload 0, .invokeinterface 3356 0, .aload 0, .checkcast 1576336, .sipush 30, .iload 1, .iadd, .iaload, .ireturn]
  | _ => []
theorem k_X12_hand : ∀ t, bok (mC 219) (mB 219) (mL 219) t (b_X12_hand t) = true := by
  intro t
  unfold b_X12_hand
  split
  all_goals first | decide +kernel | rfl
theorem e_X12_hand {d : Nat} {av : List AV} {σ : Mem} {K : Option AV → Mem → Prop} (hl : (entL av).length ≤ 4) (h : wp d 219 b_X12_hand K 400 (b_X12_hand 0) (ent 4 av) [] σ) : Ev (d + 1) 219 av σ K := Ev.enter (by decide) (by decide +kernel) hl (wp_ok k_X12_hand 400 _ 0 _ _ _ (k_X12_hand 0) h)
theorem r_X12_hand : mR 219 = (some .int) := by decide +kernel
def b_X12_whyHand (t : Nat) : List Instr := match t with
  | 0 => [.aload 0, .lload 1, .lload 3, .invokeinterface 3548 2, .ifCond .ne 11, .sipush 1, .ireturn]
  | 11 => [.lload 1, .l2i, .istore 5, .lload 3, .l2i, .istore 6, .aload 0, .checkcast 1576336, .sipush 30, .iload 5, .iadd, .iaload, .sipush 1, .iadd, .istore 7, .aload 0, .iload 5, .invokeinterface 3404 1, .ifCond .ne 87, .aload 0, .checkcast 1576336, .sipush 30, .iload 5, .iadd, .iaload, .aload 0, .checkcast 1576336, .sipush 30, .iload 6, .iadd, .iaload, .if_icmp .ne 87, .iload 7, .aload 0, .checkcast 1576336, .sipush 1, .iaload, .sipush 1, .iadd, .if_icmp .gt 87, .aload 0, .iload 7, .invokeinterface 3420 1, .ifCond .eq 89, .jsr 87]
  | 87 => [.sipush 2, .ireturn]
  | 89 => [.aload 0, .iload 5, .iload 7, .invokeinterface 3436 2, .ifCond .eq 115, .aload 0, .iload 6, .iload 7, .invokeinterface 3436 2, .ifCond .eq 115, .sipush 0, .goto 116]
  | 115 => [.sipush 3, .jsr 116]
  | 116 => [.ireturn]
  | _ => []
theorem k_X12_whyHand : ∀ t, bok (mC 220) (mB 220) (mL 220) t (b_X12_whyHand t) = true := by
  intro t
  unfold b_X12_whyHand
  split
  all_goals first | decide +kernel | rfl
theorem e_X12_whyHand {d : Nat} {av : List AV} {σ : Mem} {K : Option AV → Mem → Prop} (hl : (entL av).length ≤ 8) (h : wp d 220 b_X12_whyHand K 400 (b_X12_whyHand 0) (ent 8 av) [] σ) : Ev (d + 1) 220 av σ K := Ev.enter (by decide) (by decide +kernel) hl (wp_ok k_X12_whyHand 400 _ 0 _ _ _ (k_X12_whyHand 0) h)
theorem r_X12_whyHand : mR 220 = (some .int) := by decide +kernel
def b_X12_areTwo (t : Nat) : List Instr := match t with
  | 0 => [.aload 0, .lload 1, .invokeinterface 3260 1, .ifCond .eq 26, .aload 0, .lload 3, .invokeinterface 3260 1, .ifCond .eq 26, .lload 1, .lload 3, .lcmp, .ifCond .eq 26, .sipush 1, .goto 27]
  | 26 => [.sipush 0, .jsr 27]
  | 27 => [.ireturn]
  | _ => []
theorem k_X12_areTwo : ∀ t, bok (mC 221) (mB 221) (mL 221) t (b_X12_areTwo t) = true := by
  intro t
  unfold b_X12_areTwo
  split
  all_goals first | decide +kernel | rfl
theorem e_X12_areTwo {d : Nat} {av : List AV} {σ : Mem} {K : Option AV → Mem → Prop} (hl : (entL av).length ≤ 5) (h : wp d 221 b_X12_areTwo K 400 (b_X12_areTwo 0) (ent 5 av) [] σ) : Ev (d + 1) 221 av σ K := Ev.enter (by decide) (by decide +kernel) hl (wp_ok k_X12_areTwo 400 _ 0 _ _ _ (k_X12_areTwo 0) h)
theorem r_X12_areTwo : mR 221 = (some .boolean) := by decide +kernel
def b_X12_goesBoth (t : Nat) : List Instr := match t with
  | 0 => [.aload 0, .checkcast 1576336, .sipush 30, .iload 1, .iadd, .dup2, .iaload, .sipush 1, .iadd, .iastore, .aload 0, .checkcast 1576336, .sipush 30, .iload 2, .iadd, .dup2, .iaload, .sipush 1, .iadd, .iastore, .aload 0, .invokeinterface 3004 0, .return_]
  | _ => []
theorem k_X12_goesBoth : ∀ t, bok (mC 222) (mB 222) (mL 222) t (b_X12_goesBoth t) = true := by
  intro t
  unfold b_X12_goesBoth
  split
  all_goals first | decide +kernel | rfl
theorem e_X12_goesBoth {d : Nat} {av : List AV} {σ : Mem} {K : Option AV → Mem → Prop} (hl : (entL av).length ≤ 3) (h : wp d 222 b_X12_goesBoth K 400 (b_X12_goesBoth 0) (ent 3 av) [] σ) : Ev (d + 1) 222 av σ K := Ev.enter (by decide) (by decide +kernel) hl (wp_ok k_X12_goesBoth 400 _ 0 _ _ _ (k_X12_goesBoth 0) h)
theorem r_X12_goesBoth : mR 222 = none := by decide +kernel
def b_X12_tear (t : Nat) : List Instr := match t with
  | 0 => [.aload 0, .sipush 0, .putfield 768, .aload 0, .iload 1, .i2l, .iload 2, .i2l, .invokeinterface 3596 2, .istore 3, .iload 3, .ifCond .eq 23, .sipush (-10), .iload 3, .isub, .ireturn]
  | 23 => [.aload 0, .invokeinterface 3340 0, .aload 0, .iload 1, .iload 2, .invokeinterface 3084 2, .istore 4, .aload 0, .iload 1, .iload 2, .invokeinterface 3612 2, .aload 0, .invokeinterface 3356 0, .iload 4, .ireturn]
  | _ => []
theorem k_X12_tear : ∀ t, bok (mC 223) (mB 223) (mL 223) t (b_X12_tear t) = true := by
  intro t
  unfold b_X12_tear
  split
  all_goals first | decide +kernel | rfl
theorem e_X12_tear {d : Nat} {av : List AV} {σ : Mem} {K : Option AV → Mem → Prop} (hl : (entL av).length ≤ 5) (h : wp d 223 b_X12_tear K 400 (b_X12_tear 0) (ent 5 av) [] σ) : Ev (d + 1) 223 av σ K := Ev.enter (by decide) (by decide +kernel) hl (wp_ok k_X12_tear 400 _ 0 _ _ _ (k_X12_tear 0) h)
theorem r_X12_tear : mR 223 = (some .int) := by decide +kernel
def b_X12_whyTear (t : Nat) : List Instr := match t with
  | 0 => [.aload 0, .lload 1, .lload 3, .invokeinterface 3548 2, .ifCond .ne 13, .sipush 1, .goto 29]
  | 13 => [.aload 0, .lload 1, .l2i, .lload 3, .l2i, .invokeinterface 3084 2, .ifCond .ne 28, .sipush 2, .goto 29]
  | 28 => [.sipush 0, .jsr 29]
  | 29 => [.ireturn]
  | _ => []
theorem k_X12_whyTear : ∀ t, bok (mC 224) (mB 224) (mL 224) t (b_X12_whyTear t) = true := by
  intro t
  unfold b_X12_whyTear
  split
  all_goals first | decide +kernel | rfl
theorem e_X12_whyTear {d : Nat} {av : List AV} {σ : Mem} {K : Option AV → Mem → Prop} (hl : (entL av).length ≤ 5) (h : wp d 224 b_X12_whyTear K 400 (b_X12_whyTear 0) (ent 5 av) [] σ) : Ev (d + 1) 224 av σ K := Ev.enter (by decide) (by decide +kernel) hl (wp_ok k_X12_whyTear 400 _ 0 _ _ _ (k_X12_whyTear 0) h)
theorem r_X12_whyTear : mR 224 = (some .int) := by decide +kernel
def b_X12_tears1 (t : Nat) : List Instr := match t with
  | 0 => [.aload 0, .checkcast 1576336, .sipush 36, .sipush 6, .iload 1, .imul, .iadd, .iload 2, .iadd, .sipush 0, .iastore, .aload 0, .invokeinterface 3004 0, .return_]
  | _ => []
theorem k_X12_tears1 : ∀ t, bok (mC 225) (mB 225) (mL 225) t (b_X12_tears1 t) = true := by
  intro t
  unfold b_X12_tears1
  split
  all_goals first | decide +kernel | rfl
theorem e_X12_tears1 {d : Nat} {av : List AV} {σ : Mem} {K : Option AV → Mem → Prop} (hl : (entL av).length ≤ 3) (h : wp d 225 b_X12_tears1 K 400 (b_X12_tears1 0) (ent 3 av) [] σ) : Ev (d + 1) 225 av σ K := Ev.enter (by decide) (by decide +kernel) hl (wp_ok k_X12_tears1 400 _ 0 _ _ _ (k_X12_tears1 0) h)
theorem r_X12_tears1 : mR 225 = none := by decide +kernel
def b_X12_cancel (t : Nat) : List Instr := match t with
  | 0 => [.aload 0, .sipush 0, .putfield 768, .aload 0, .iload 1, .invokeinterface 3644 1, .istore 2, .iload 2, .ifCond .eq 17, .iload 2, .ireturn]
  | 17 => [.aload 0, .checkcast 1638192, .iload 1, .iaload, .i2l, .jsr_w 2, .jsr_w 6, .multianewarray 162 3, .ifCond .eq 44, .aload 0, .iload 1, .invokeinterface 3660 1, .ifCond .ne 47, .jsr 44]
  | 44 => [.sipush (-11), .ireturn]
  | 47 => [.aload 0, .invokeinterface 3676 0, .istore 3, .iload 3, .ifCond .ne 59, .sipush (-12), .ireturn]
  | 59 => [.aload 0, .invokeinterface 3340 0, .sipush 0, .istore 4, .jsr 66]
  | 66 => [.goto_w 66]
  | 118 => [.aload 0, .invokeinterface 3004 0, .aload 0, .invokeinterface 3356 0, .iload 3, .ireturn]
  | _ => []
theorem k_X12_cancel : ∀ t, bok (mC 226) (mB 226) (mL 226) t (b_X12_cancel t) = true := by
  intro t
  unfold b_X12_cancel
  split
  all_goals first | decide +kernel | rfl
theorem e_X12_cancel {d : Nat} {av : List AV} {σ : Mem} {K : Option AV → Mem → Prop} (hl : (entL av).length ≤ 5) (h : wp d 226 b_X12_cancel K 400 (b_X12_cancel 0) (ent 5 av) [] σ) : Ev (d + 1) 226 av σ K := Ev.enter (by decide) (by decide +kernel) hl (wp_ok k_X12_cancel 400 _ 0 _ _ _ (k_X12_cancel 0) h)
theorem r_X12_cancel : mR 226 = (some .int) := by decide +kernel
def h_X12_cancel_66 : List Instr := [.iload 4, .aload 0, .getfield 789, .if_icmp .ge 118, .aload 0, .checkcast 1576336, .sipush 36, .sipush 6, .aload 0, .checkcast 1615504, .iload 4, .iaload, .imul, .iadd, .aload 0, .checkcast 1615504, .iload 4, .sipush 1, .iadd, .aload 0, .getfield 789, .irem, .iaload, .iadd, .dup2, .iaload, .iload 3, .isub, .iastore, .iinc 4 1, .goto 66]
theorem l_X12_cancel_66 {d : Nat} {ls st : List AV} {σ : Mem} {K : Option AV → Mem → Prop} (h : wp d 226 b_X12_cancel K 400 h_X12_cancel_66 ls st σ) : Rn (d + 1) 226 66 ls st σ K := wp_ok k_X12_cancel 400 _ 66 _ _ _ (by decide +kernel) h
def b_X12_noTray (t : Nat) : List Instr := match t with
  | 0 => [.iload 1, .i2l, .jsr_w 0, .jsr_w 3, .multianewarray 162 3, .ifCond .ne 17, .sipush (-2), .goto 33]
  | 17 => [.aload 0, .checkcast 1636112, .iload 1, .iaload, .sipush (-1), .if_icmp .ne 32, .sipush (-6), .goto 33]
  | 32 => [.sipush 0, .jsr 33]
  | 33 => [.ireturn]
  | _ => []
theorem k_X12_noTray : ∀ t, bok (mC 227) (mB 227) (mL 227) t (b_X12_noTray t) = true := by
  intro t
  unfold b_X12_noTray
  split
  all_goals first | decide +kernel | rfl
theorem e_X12_noTray {d : Nat} {av : List AV} {σ : Mem} {K : Option AV → Mem → Prop} (hl : (entL av).length ≤ 2) (h : wp d 227 b_X12_noTray K 400 (b_X12_noTray 0) (ent 2 av) [] σ) : Ev (d + 1) 227 av σ K := Ev.enter (by decide) (by decide +kernel) hl (wp_ok k_X12_noTray 400 _ 0 _ _ _ (k_X12_noTray 0) h)
theorem r_X12_noTray : mR 227 = (some .int) := by decide +kernel
def b_X12_laysPeople (t : Nat) : List Instr := match t with
  | 0 => [.aload 0, .aload 0, .checkcast 1638192, .iload 1, .iaload, .putfield 789, .sipush 0, .istore 2, .sipush 0, .istore 3, .jsr 14]
  | 14 => [.goto_w 14]
  | 55 => [.sipush 0, .ireturn]
  | 57 => [.aload 0, .checkcast 1615504, .iload 3, .lload 4, .l2i, .iastore, .iload 2, .sipush 1, .aload 0, .checkcast 1615504, .iload 3, .iaload, .ishl, .ior, .istore 2, .iinc 3 1, .goto 14]
  | 83 => [.sipush 1, .ireturn]
  | _ => []
theorem k_X12_laysPeople : ∀ t, bok (mC 228) (mB 228) (mL 228) t (b_X12_laysPeople t) = true := by
  intro t
  unfold b_X12_laysPeople
  split
  all_goals first | decide +kernel | rfl
theorem e_X12_laysPeople {d : Nat} {av : List AV} {σ : Mem} {K : Option AV → Mem → Prop} (hl : (entL av).length ≤ 6) (h : wp d 228 b_X12_laysPeople K 400 (b_X12_laysPeople 0) (ent 6 av) [] σ) : Ev (d + 1) 228 av σ K := Ev.enter (by decide) (by decide +kernel) hl (wp_ok k_X12_laysPeople 400 _ 0 _ _ _ (k_X12_laysPeople 0) h)
theorem r_X12_laysPeople : mR 228 = (some .boolean) := by decide +kernel
def h_X12_laysPeople_14 : List Instr := [.iload 3, .aload 0, .getfield 789, .if_icmp .ge 83, .aload 0, .checkcast 1640272, .sipush 40, .iload 1, .imul, .iload 3, .iadd, .laload, .lstore 4, .aload 0, .lload 4, .invokeinterface 3260 1, .ifCond .eq 55, .iload 2, .i2l, .lload 4, .l2i, .multianewarray 198 2, .ifCond .eq 57, .jsr 55]
theorem l_X12_laysPeople_14 {d : Nat} {ls st : List AV} {σ : Mem} {K : Option AV → Mem → Prop} (h : wp d 228 b_X12_laysPeople K 400 h_X12_laysPeople_14 ls st σ) : Rn (d + 1) 228 14 ls st σ K := wp_ok k_X12_laysPeople 400 _ 14 _ _ _ (by decide +kernel) h
def b_X12_leastOf (t : Nat) : List Instr := match t with
  | 0 => [.sipush 268435456, .istore 1, .sipush 0, .istore 2, .jsr 6]
  | 6 => [.goto_w 6]
  | 47 => [.iload 1, .jsr 48]
  | 48 => [.istore 1, .iinc 2 1, .goto 6]
  | 55 => [.iload 1, .ireturn]
  | _ => []
theorem k_X12_leastOf : ∀ t, bok (mC 229) (mB 229) (mL 229) t (b_X12_leastOf t) = true := by
  intro t
  unfold b_X12_leastOf
  split
  all_goals first | decide +kernel | rfl
theorem e_X12_leastOf {d : Nat} {av : List AV} {σ : Mem} {K : Option AV → Mem → Prop} (hl : (entL av).length ≤ 4) (h : wp d 229 b_X12_leastOf K 400 (b_X12_leastOf 0) (ent 4 av) [] σ) : Ev (d + 1) 229 av σ K := Ev.enter (by decide) (by decide +kernel) hl (wp_ok k_X12_leastOf 400 _ 0 _ _ _ (k_X12_leastOf 0) h)
theorem r_X12_leastOf : mR 229 = (some .int) := by decide +kernel
def h_X12_leastOf_6 : List Instr := [.iload 2, .aload 0, .getfield 789, .if_icmp .ge 55, .aload 0, .aload 0, .checkcast 1615504, .iload 2, .iaload, .aload 0, .checkcast 1615504, .iload 2, .sipush 1, .iadd, .aload 0, .getfield 789, .irem, .iaload, .invokeinterface 3084 2, .istore 3, .iload 3, .iload 1, .if_icmp .ge 47, .iload 3, .goto 48]
theorem l_X12_leastOf_6 {d : Nat} {ls st : List AV} {σ : Mem} {K : Option AV → Mem → Prop} (h : wp d 229 b_X12_leastOf K 400 h_X12_leastOf_6 ls st σ) : Rn (d + 1) 229 6 ls st σ K := wp_ok k_X12_leastOf 400 _ 6 _ _ _ (by decide +kernel) h
def b_X12_mend (t : Nat) : List Instr := match t with
  | 0 => [.aload 0, .sipush 0, .putfield 768, .aload 0, .iload 1, .i2l, .invokeinterface 3708 1, .istore 2, .iload 2, .ifCond .eq 21, .sipush (-10), .iload 2, .isub, .ireturn]
  | 21 => [.aload 0, .invokeinterface 3340 0, .aload 0, .iload 1, .invokeinterface 3724 1, .aload 0, .invokeinterface 3356 0, .aload 0, .iload 1, .invokeinterface 3212 1, .ireturn]
  | _ => []
theorem k_X12_mend : ∀ t, bok (mC 230) (mB 230) (mL 230) t (b_X12_mend t) = true := by
  intro t
  unfold b_X12_mend
  split
  all_goals first | decide +kernel | rfl
theorem e_X12_mend {d : Nat} {av : List AV} {σ : Mem} {K : Option AV → Mem → Prop} (hl : (entL av).length ≤ 3) (h : wp d 230 b_X12_mend K 400 (b_X12_mend 0) (ent 3 av) [] σ) : Ev (d + 1) 230 av σ K := Ev.enter (by decide) (by decide +kernel) hl (wp_ok k_X12_mend 400 _ 0 _ _ _ (k_X12_mend 0) h)
theorem r_X12_mend : mR 230 = (some .int) := by decide +kernel
def b_X12_whyMend (t : Nat) : List Instr := match t with
  | 0 => [.aload 0, .lload 1, .invokeinterface 3308 1, .ifCond .ne 10, .sipush 1, .ireturn]
  | 10 => [.aload 0, .checkcast 1576336, .sipush 21, .iaload, .i2l, .lload 1, .l2i, .multianewarray 198 2, .ifCond .ne 45, .aload 0, .checkcast 1576336, .sipush 22, .lload 1, .l2i, .iadd, .iaload, .sipush 99, .if_icmp .ne 45, .sipush 2, .goto 46]
  | 45 => [.sipush 0, .jsr 46]
  | 46 => [.ireturn]
  | _ => []
theorem k_X12_whyMend : ∀ t, bok (mC 231) (mB 231) (mL 231) t (b_X12_whyMend t) = true := by
  intro t
  unfold b_X12_whyMend
  split
  all_goals first | decide +kernel | rfl
theorem e_X12_whyMend {d : Nat} {av : List AV} {σ : Mem} {K : Option AV → Mem → Prop} (hl : (entL av).length ≤ 3) (h : wp d 231 b_X12_whyMend K 400 (b_X12_whyMend 0) (ent 3 av) [] σ) : Ev (d + 1) 231 av σ K := Ev.enter (by decide) (by decide +kernel) hl (wp_ok k_X12_whyMend 400 _ 0 _ _ _ (k_X12_whyMend 0) h)
theorem r_X12_whyMend : mR 231 = (some .int) := by decide +kernel
def b_X12_mends1 (t : Nat) : List Instr := match t with
  | 0 => [.aload 0, .checkcast 1576336, .sipush 21, .iaload, .i2l, .iload 1, .multianewarray 198 2, .ifCond .eq 33, .aload 0, .checkcast 1576336, .sipush 21, .dup2, .iaload, .sipush 1, .iload 1, .ishl, .sipush (-1), .ixor, .iand, .iastore, .goto 46]
  | 33 => [.aload 0, .checkcast 1576336, .sipush 22, .iload 1, .iadd, .dup2, .iaload, .sipush 1, .iadd, .iastore, .jsr 46]
  | 46 => [.aload 0, .invokeinterface 3004 0, .return_]
  | _ => []
theorem k_X12_mends1 : ∀ t, bok (mC 232) (mB 232) (mL 232) t (b_X12_mends1 t) = true := by
  intro t
  unfold b_X12_mends1
  split
  all_goals first | decide +kernel | rfl
theorem e_X12_mends1 {d : Nat} {av : List AV} {σ : Mem} {K : Option AV → Mem → Prop} (hl : (entL av).length ≤ 2) (h : wp d 232 b_X12_mends1 K 400 (b_X12_mends1 0) (ent 2 av) [] σ) : Ev (d + 1) 232 av σ K := Ev.enter (by decide) (by decide +kernel) hl (wp_ok k_X12_mends1 400 _ 0 _ _ _ (k_X12_mends1 0) h)
theorem r_X12_mends1 : mR 232 = none := by decide +kernel
def b_X12_days (t : Nat) : List Instr := match t with
  | 0 => [.aload 0, .sipush 0, .putfield 768, .iload 1, .i2l, .jsr_w 1, .jsr_w 99, .multianewarray 162 3, .ifCond .ne 20, .sipush (-3), .ireturn]
  | 20 => [.aload 0, .invokeinterface 3340 0, .sipush 0, .istore 2, .sipush 0, .istore 3, .jsr 28]
  | 28 => [.goto_w 28]
  | 46 => [.aload 0, .invokeinterface 3356 0, .iload 2, .ireturn]
  | _ => []
theorem k_X12_days : ∀ t, bok (mC 233) (mB 233) (mL 233) t (b_X12_days t) = true := by
  intro t
  unfold b_X12_days
  split
  all_goals first | decide +kernel | rfl
theorem e_X12_days {d : Nat} {av : List AV} {σ : Mem} {K : Option AV → Mem → Prop} (hl : (entL av).length ≤ 4) (h : wp d 233 b_X12_days K 400 (b_X12_days 0) (ent 4 av) [] σ) : Ev (d + 1) 233 av σ K := Ev.enter (by decide) (by decide +kernel) hl (wp_ok k_X12_days 400 _ 0 _ _ _ (k_X12_days 0) h)
theorem r_X12_days : mR 233 = (some .int) := by decide +kernel
def h_X12_days_28 : List Instr := [.iload 3, .iload 1, .if_icmp .ge 46, .iload 2, .aload 0, .invokeinterface 3756 0, .iadd, .istore 2, .iinc 3 1, .goto 28]
theorem l_X12_days_28 {d : Nat} {ls st : List AV} {σ : Mem} {K : Option AV → Mem → Prop} (h : wp d 233 b_X12_days K 400 h_X12_days_28 ls st σ) : Rn (d + 1) 233 28 ls st σ K := wp_ok k_X12_days 400 _ 28 _ _ _ (by decide +kernel) h
def b_X12_goesDay (t : Nat) : List Instr := match t with
  | 0 => [.aload 0, .checkcast 1576336, .sipush 18, .dup2, .iaload, .sipush 1, .iadd, .iastore, .aload 0, .checkcast 1576336, .sipush 19, .aload 0, .sipush 10, .invokeinterface 3772 1, .aload 0, .checkcast 1576336, .sipush 3, .iaload, .if_icmp .ge 36, .sipush 1, .goto 37]
  | 36 => [.sipush 0, .jsr 37]
  | 37 => [.iastore, .aload 0, .invokeinterface 3004 0, .aload 0, .checkcast 1576336, .sipush 19, .iaload, .ireturn]
  | _ => []
theorem k_X12_goesDay : ∀ t, bok (mC 234) (mB 234) (mL 234) t (b_X12_goesDay t) = true := by
  intro t
  unfold b_X12_goesDay
  split
  all_goals first | decide +kernel | rfl
theorem e_X12_goesDay {d : Nat} {av : List AV} {σ : Mem} {K : Option AV → Mem → Prop} (hl : (entL av).length ≤ 1) (h : wp d 234 b_X12_goesDay K 400 (b_X12_goesDay 0) (ent 1 av) [] σ) : Ev (d + 1) 234 av σ K := Ev.enter (by decide) (by decide +kernel) hl (wp_ok k_X12_goesDay 400 _ 0 _ _ _ (k_X12_goesDay 0) h)
theorem r_X12_goesDay : mR 234 = (some .int) := by decide +kernel
def b_X12_draw (t : Nat) : List Instr := match t with
  | 0 => [.aload 0, .checkcast 1576336, .sipush 20, .sipush 1103515245, .aload 0, .checkcast 1576336, .sipush 20, .iaload, .imul, .sipush 12345, .iadd, .iastore, .aload 0, .checkcast 1576336, .sipush 20, .iaload, .sipush 16, .iushr, .iload 1, .irem, .ireturn]
  | _ => []
theorem k_X12_draw : ∀ t, bok (mC 235) (mB 235) (mL 235) t (b_X12_draw t) = true := by
  intro t
  unfold b_X12_draw
  split
  all_goals first | decide +kernel | rfl
theorem e_X12_draw {d : Nat} {av : List AV} {σ : Mem} {K : Option AV → Mem → Prop} (hl : (entL av).length ≤ 2) (h : wp d 235 b_X12_draw K 400 (b_X12_draw 0) (ent 2 av) [] σ) : Ev (d + 1) 235 av σ K := Ev.enter (by decide) (by decide +kernel) hl (wp_ok k_X12_draw 400 _ 0 _ _ _ (k_X12_draw 0) h)
theorem r_X12_draw : mR 235 = (some .int) := by decide +kernel
def b_X12_undo (t : Nat) : List Instr := match t with
  | 0 => [.aload 0, .sipush 0, .putfield 768, .iload 1, .i2l, .jsr_w 1, .jsr_w 10, .multianewarray 162 3, .ifCond .eq 28, .iload 1, .aload 0, .checkcast 1576336, .sipush 72, .iaload, .if_icmp .le 31, .jsr 28]
  | 28 => [.sipush (-3), .ireturn]
  | 31 => [.aload 0, .checkcast 1576336, .sipush 72, .dup2, .iaload, .iload 1, .isub, .iastore, .sipush 0, .istore 2, .jsr 44]
  | 44 => [.goto_w 44]
  | 85 => [.aload 0, .checkcast 1576336, .sipush 72, .iaload, .ireturn]
  | _ => []
theorem k_X12_undo : ∀ t, bok (mC 236) (mB 236) (mL 236) t (b_X12_undo t) = true := by
  intro t
  unfold b_X12_undo
  split
  all_goals first | decide +kernel | rfl
theorem e_X12_undo {d : Nat} {av : List AV} {σ : Mem} {K : Option AV → Mem → Prop} (hl : (entL av).length ≤ 3) (h : wp d 236 b_X12_undo K 400 (b_X12_undo 0) (ent 3 av) [] σ) : Ev (d + 1) 236 av σ K := Ev.enter (by decide) (by decide +kernel) hl (wp_ok k_X12_undo 400 _ 0 _ _ _ (k_X12_undo 0) h)
theorem r_X12_undo : mR 236 = (some .int) := by decide +kernel
def h_X12_undo_44 : List Instr := [.iload 2, .sipush 54, .if_icmp .ge 85, .aload 0, .checkcast 1576336, .sipush 18, .iload 2, .iadd, .aload 0, .checkcast 1576336, .sipush 73, .sipush 54, .aload 0, .checkcast 1576336, .sipush 72, .iaload, .imul, .iadd, .iload 2, .iadd, .iaload, .iastore, .iinc 2 1, .goto 44]
theorem l_X12_undo_44 {d : Nat} {ls st : List AV} {σ : Mem} {K : Option AV → Mem → Prop} (h : wp d 236 b_X12_undo K 400 h_X12_undo_44 ls st σ) : Rn (d + 1) 236 44 ls st σ K := wp_ok k_X12_undo 400 _ 44 _ _ _ (by decide +kernel) h
def b_X12_judge (t : Nat) : List Instr := match t with
  | 0 => [.aload 0, .sipush 0, .putfield 768, .iload 2, .i2l, .jsr_w 0, .jsr_w 3, .multianewarray 162 3, .ifCond .ne 20, .sipush (-2), .ireturn]
  | 20 => [.aload 0, .iload 1, .invokeinterface 3644 1, .istore 3, .iload 3, .ifCond .eq 32, .iload 3, .ireturn]
  | 32 => [.aload 0, .invokeinterface 3340 0, .aload 0, .iload 1, .invokeinterface 3820 1, .istore 4, .aload 0, .invokeinterface 3868 0, .istore 5, .aload 0, .invokeinterface 3884 0, .istore 6, .aload 0, .invokeinterface 3900 0, .iload 2, .ifCond .ne 79, .aload 0, .getfield 790, .ifCond .ne 74, .sipush (-1), .goto 103]
  | 74 => [.iload 4, .goto 103]
  | 79 => [.iload 2, .sipush 1, .if_icmp .ne 91, .aload 0, .getfield 790, .goto 103]
  | 91 => [.iload 2, .sipush 2, .if_icmp .ne 101, .iload 5, .goto 103]
  | 101 => [.iload 6, .jsr 103]
  | 103 => [.ireturn]
  | _ => []
theorem k_X12_judge : ∀ t, bok (mC 237) (mB 237) (mL 237) t (b_X12_judge t) = true := by
  intro t
  unfold b_X12_judge
  split
  all_goals first | decide +kernel | rfl
theorem e_X12_judge {d : Nat} {av : List AV} {σ : Mem} {K : Option AV → Mem → Prop} (hl : (entL av).length ≤ 7) (h : wp d 237 b_X12_judge K 400 (b_X12_judge 0) (ent 7 av) [] σ) : Ev (d + 1) 237 av σ K := Ev.enter (by decide) (by decide +kernel) hl (wp_ok k_X12_judge 400 _ 0 _ _ _ (k_X12_judge 0) h)
theorem r_X12_judge : mR 237 = (some .int) := by decide +kernel
def b_X12_tells (t : Nat) : List Instr := match t with
  | 0 => [.aload 0, .sipush 0, .putfield 790, .sipush 0, .istore 2, .jsr 7]
  | 7 => [.goto_w 7]
  | 45 => [.aload 0, .aload 0, .checkcast 1640272, .sipush 40, .iload 1, .imul, .iload 2, .iadd, .laload, .l2i, .invokeinterface 3852 1, .iinc 2 1, .goto 7]
  | 67 => [.aload 0, .checkcast 1638192, .iload 1, .iaload, .ireturn]
  | _ => []
theorem k_X12_tells : ∀ t, bok (mC 238) (mB 238) (mL 238) t (b_X12_tells t) = true := by
  intro t
  unfold b_X12_tells
  split
  all_goals first | decide +kernel | rfl
theorem e_X12_tells {d : Nat} {av : List AV} {σ : Mem} {K : Option AV → Mem → Prop} (hl : (entL av).length ≤ 3) (h : wp d 238 b_X12_tells K 400 (b_X12_tells 0) (ent 3 av) [] σ) : Ev (d + 1) 238 av σ K := Ev.enter (by decide) (by decide +kernel) hl (wp_ok k_X12_tells 400 _ 0 _ _ _ (k_X12_tells 0) h)
theorem r_X12_tells : mR 238 = (some .int) := by decide +kernel
def h_X12_tells_7 : List Instr := [.iload 2, .aload 0, .checkcast 1638192, .iload 1, .iaload, .if_icmp .ge 67, .aload 0, .aload 0, .aload 0, .checkcast 1640272, .sipush 40, .iload 1, .imul, .iload 2, .iadd, .laload, .invokeinterface 3836 1, .putfield 790, .aload 0, .getfield 790, .ifCond .eq 45, .iload 2, .ireturn]
theorem l_X12_tells_7 {d : Nat} {ls st : List AV} {σ : Mem} {K : Option AV → Mem → Prop} (h : wp d 238 b_X12_tells K 400 h_X12_tells_7 ls st σ) : Rn (d + 1) 238 7 ls st σ K := wp_ok k_X12_tells 400 _ 7 _ _ _ (by decide +kernel) h
def b_X12_whyNot (t : Nat) : List Instr := match t with
  | 0 => [.lload 1, .jsr_w (-1), .lcmp, .ifCond .ne 10, .sipush 0, .ireturn]
  | 10 => [.lload 1, .jsr_w 0, .jsr_w 9, .multianewarray 162 3, .ifCond .eq 28, .aload 0, .lload 1, .sipush 1, .invokeinterface 3388 2, .ireturn]
  | 28 => [.lload 1, .jsr_w 10, .jsr_w 19, .multianewarray 162 3, .ifCond .eq 52, .aload 0, .lload 1, .jsr_w 10, .lsub, .sipush (-1), .invokeinterface 3388 2, .ireturn]
  | 52 => [.lload 1, .jsr_w 100, .jsr_w 199, .multianewarray 162 3, .ifCond .eq 84, .aload 0, .lload 1, .jsr_w 100, .lsub, .jsr_w 10, .ldiv, .lload 1, .jsr_w 10, .lrem, .invokeinterface 3532 2, .ireturn]
  | 84 => [.lload 1, .jsr_w 200, .jsr_w 299, .multianewarray 162 3, .ifCond .eq 116, .aload 0, .lload 1, .jsr_w 200, .lsub, .jsr_w 10, .ldiv, .lload 1, .jsr_w 10, .lrem, .invokeinterface 3596 2, .ireturn]
  | 116 => [.lload 1, .jsr_w 300, .jsr_w 309, .multianewarray 162 3, .ifCond .eq 141, .aload 0, .lload 1, .jsr_w 300, .lsub, .invokeinterface 3708 1, .goto 142]
  | 141 => [.sipush 1, .jsr 142]
  | 142 => [.ireturn]
  | _ => []
theorem k_X12_whyNot : ∀ t, bok (mC 239) (mB 239) (mL 239) t (b_X12_whyNot t) = true := by
  intro t
  unfold b_X12_whyNot
  split
  all_goals first | decide +kernel | rfl
theorem e_X12_whyNot {d : Nat} {av : List AV} {σ : Mem} {K : Option AV → Mem → Prop} (hl : (entL av).length ≤ 3) (h : wp d 239 b_X12_whyNot K 400 (b_X12_whyNot 0) (ent 3 av) [] σ) : Ev (d + 1) 239 av σ K := Ev.enter (by decide) (by decide +kernel) hl (wp_ok k_X12_whyNot 400 _ 0 _ _ _ (k_X12_whyNot 0) h)
theorem r_X12_whyNot : mR 239 = (some .int) := by decide +kernel
def b_X12_does (t : Nat) : List Instr := match t with
  | 0 => [.iload 1, .sipush (-1), .if_icmp .ne 13, .aload 0, .invokeinterface 3756 0, .pop, .goto 106]
  | 13 => [.iload 1, .sipush 10, .if_icmp .ge 28, .aload 0, .iload 1, .sipush 1, .invokeinterface 3500 2, .goto 106]
  | 28 => [.iload 1, .sipush 20, .if_icmp .ge 46, .aload 0, .iload 1, .sipush 10, .isub, .sipush (-1), .invokeinterface 3500 2, .goto 106]
  | 46 => [.iload 1, .sipush 200, .if_icmp .ge 71, .aload 0, .iload 1, .sipush 100, .isub, .sipush 10, .idiv, .iload 1, .sipush 10, .irem, .invokeinterface 3564 2, .goto 106]
  | 71 => [.iload 1, .sipush 300, .if_icmp .ge 97, .aload 0, .iload 1, .sipush 200, .isub, .sipush 10, .idiv, .iload 1, .sipush 10, .irem, .invokeinterface 3612 2, .goto 106]
  | 97 => [.aload 0, .iload 1, .sipush 300, .isub, .invokeinterface 3724 1, .jsr 106]
  | 106 => [.return_]
  | _ => []
theorem k_X12_does : ∀ t, bok (mC 240) (mB 240) (mL 240) t (b_X12_does t) = true := by
  intro t
  unfold b_X12_does
  split
  all_goals first | decide +kernel | rfl
theorem e_X12_does {d : Nat} {av : List AV} {σ : Mem} {K : Option AV → Mem → Prop} (hl : (entL av).length ≤ 2) (h : wp d 240 b_X12_does K 400 (b_X12_does 0) (ent 2 av) [] σ) : Ev (d + 1) 240 av σ K := Ev.enter (by decide) (by decide +kernel) hl (wp_ok k_X12_does 400 _ 0 _ _ _ (k_X12_does 0) h)
theorem r_X12_does : mR 240 = none := by decide +kernel
def b_X12_fallen (t : Nat) : List Instr := match t with
  | 0 => [.sipush 0, .istore 1, .sipush 0, .istore 2, .jsr 4]
  | 4 => [.goto_w 4]
  | 29 => [.sipush 0, .jsr 30]
  | 30 => [.ior, .istore 1, .iinc 2 1, .goto 4]
  | 38 => [.iload 1, .ireturn]
  | _ => []
theorem k_X12_fallen : ∀ t, bok (mC 241) (mB 241) (mL 241) t (b_X12_fallen t) = true := by
  intro t
  unfold b_X12_fallen
  split
  all_goals first | decide +kernel | rfl
theorem e_X12_fallen {d : Nat} {av : List AV} {σ : Mem} {K : Option AV → Mem → Prop} (hl : (entL av).length ≤ 3) (h : wp d 241 b_X12_fallen K 400 (b_X12_fallen 0) (ent 3 av) [] σ) : Ev (d + 1) 241 av σ K := Ev.enter (by decide) (by decide +kernel) hl (wp_ok k_X12_fallen 400 _ 0 _ _ _ (k_X12_fallen 0) h)
theorem r_X12_fallen : mR 241 = (some .int) := by decide +kernel
def h_X12_fallen_4 : List Instr := [.iload 2, .aload 0, .checkcast 1576336, .sipush 2, .iaload, .if_icmp .ge 38, .iload 1, .aload 0, .iload 2, .invokeinterface 3404 1, .ifCond .eq 29, .sipush 1, .iload 2, .ishl, .goto 30]
theorem l_X12_fallen_4 {d : Nat} {ls st : List AV} {σ : Mem} {K : Option AV → Mem → Prop} (h : wp d 241 b_X12_fallen K 400 h_X12_fallen_4 ls st σ) : Rn (d + 1) 241 4 ls st σ K := wp_ok k_X12_fallen 400 _ 4 _ _ _ (by decide +kernel) h
def b_X12_onEast (t : Nat) : List Instr := match t with
  | 0 => [.sipush 0, .istore 1, .sipush 0, .istore 2, .jsr 4]
  | 4 => [.goto_w 4]
  | 41 => [.sipush 0, .jsr 42]
  | 42 => [.ior, .istore 1, .iinc 2 1, .goto 4]
  | 50 => [.iload 1, .ireturn]
  | _ => []
theorem k_X12_onEast : ∀ t, bok (mC 242) (mB 242) (mL 242) t (b_X12_onEast t) = true := by
  intro t
  unfold b_X12_onEast
  split
  all_goals first | decide +kernel | rfl
theorem e_X12_onEast {d : Nat} {av : List AV} {σ : Mem} {K : Option AV → Mem → Prop} (hl : (entL av).length ≤ 3) (h : wp d 242 b_X12_onEast K 400 (b_X12_onEast 0) (ent 3 av) [] σ) : Ev (d + 1) 242 av σ K := Ev.enter (by decide) (by decide +kernel) hl (wp_ok k_X12_onEast 400 _ 0 _ _ _ (k_X12_onEast 0) h)
theorem r_X12_onEast : mR 242 = (some .int) := by decide +kernel
def h_X12_onEast_4 : List Instr := [.iload 2, .aload 0, .checkcast 1576336, .sipush 2, .iaload, .if_icmp .ge 50, .iload 1, .aload 0, .checkcast 1576336, .sipush 30, .iload 2, .iadd, .iaload, .aload 0, .checkcast 1576336, .sipush 1, .iaload, .sipush 1, .iadd, .if_icmp .ne 41, .sipush 1, .iload 2, .ishl, .goto 42]
theorem l_X12_onEast_4 {d : Nat} {ls st : List AV} {σ : Mem} {K : Option AV → Mem → Prop} (h : wp d 242 b_X12_onEast K 400 h_X12_onEast_4 ls st σ) : Rn (d + 1) 242 4 ls st σ K := wp_ok k_X12_onEast 400 _ 4 _ _ _ (by decide +kernel) h
def b_X12_isAgain (t : Nat) : List Instr := match t with
  | 0 => [.sipush 0, .istore 1, .jsr 2]
  | 2 => [.goto_w 2]
  | 29 => [.return_]
  | _ => []
theorem k_X12_isAgain : ∀ t, bok (mC 243) (mB 243) (mL 243) t (b_X12_isAgain t) = true := by
  intro t
  unfold b_X12_isAgain
  split
  all_goals first | decide +kernel | rfl
theorem e_X12_isAgain {d : Nat} {av : List AV} {σ : Mem} {K : Option AV → Mem → Prop} (hl : (entL av).length ≤ 2) (h : wp d 243 b_X12_isAgain K 400 (b_X12_isAgain 0) (ent 2 av) [] σ) : Ev (d + 1) 243 av σ K := Ev.enter (by decide) (by decide +kernel) hl (wp_ok k_X12_isAgain 400 _ 0 _ _ _ (k_X12_isAgain 0) h)
theorem r_X12_isAgain : mR 243 = none := by decide +kernel
def h_X12_isAgain_2 : List Instr := [.iload 1, .sipush 54, .if_icmp .ge 29, .aload 0, .checkcast 1576336, .sipush 18, .iload 1, .iadd, .aload 0, .checkcast 1613424, .iload 1, .iaload, .iastore, .iinc 1 1, .goto 2]
theorem l_X12_isAgain_2 {d : Nat} {ls st : List AV} {σ : Mem} {K : Option AV → Mem → Prop} (h : wp d 243 b_X12_isAgain K 400 h_X12_isAgain_2 ls st σ) : Rn (d + 1) 243 2 ls st σ K := wp_ok k_X12_isAgain 400 _ 2 _ _ _ (by decide +kernel) h
