/-! 11: the code of the methods, resolved, in blocks (written by wip/whole/code.py) -/
def b_X0_stepBy (t : Nat) : List Instr := match t with
  | 0 => [.aload 0, .checkcast 336, .iload 1, .invokeinterface 1482 1, .ifCond .ne 13, .sipush 1, .ireturn]
  | 13 => [.aload 0, .checkcast 336, .checkcast 1310960, .checkcast 918576, .iload 1, .iaload, .iload 2, .iadd, .istore 3, .aload 0, .iload 1, .iload 3, .invokeinterface 16 2, .ifCond .ne 39, .sipush 2, .ireturn]
  | 39 => [.aload 0, .iload 1, .iload 3, .invokeinterface 32 2, .ifCond .ne 50, .sipush 3, .ireturn]
  | 50 => [.aload 0, .iload 1, .invokeinterface 48 1, .ifCond .eq 60, .sipush 4, .ireturn]
  | 60 => [.aload 0, .checkcast 336, .checkcast 1310960, .checkcast 918576, .iload 1, .iload 3, .iastore, .aload 0, .checkcast 336, .invokeinterface 1290 0, .sipush 0, .ireturn]
  | _ => []
theorem k_X0_stepBy : ∀ t, bok (mC 0) (mB 0) (mL 0) t (b_X0_stepBy t) = true := by
  intro t
  unfold b_X0_stepBy
  split
  all_goals first | decide +kernel | rfl
theorem e_X0_stepBy {d : Nat} {av : List AV} {σ : Mem} {K : Option AV → Mem → Prop} (hl : (entL av).length ≤ 4) (h : wp d 0 b_X0_stepBy K 400 (b_X0_stepBy 0) (ent 4 av) [] σ) : Ev (d + 1) 0 av σ K := Ev.enter (by decide) (by decide +kernel) hl (wp_ok k_X0_stepBy 400 _ 0 _ _ _ (k_X0_stepBy 0) h)
theorem r_X0_stepBy : mR 0 = (some .int) := by decide +kernel
def b_X0_canMove (t : Nat) : List Instr := match t with
  | 0 => [.aload 0, .checkcast 336, .checkcast 1310960, .checkcast 918576, .iload 1, .iaload, .sipush (-1), .if_icmp .eq 36, .iload 2, .ifCond .lt 36, .iload 2, .aload 0, .checkcast 336, .instanceof 643, .getfield 197, .sipush 1, .iadd, .if_icmp .le 38, .jsr 36]
  | 36 => [.sipush 0, .ireturn]
  | 38 => [.aload 0, .checkcast 336, .iload 2, .sipush 1, .isub, .invokeinterface 1450 1, .ifCond .eq 64, .aload 0, .checkcast 336, .iload 2, .sipush 1, .isub, .invokeinterface 1418 1, .ifCond .ne 68, .jsr 64]
  | 64 => [.sipush 1, .goto 69]
  | 68 => [.sipush 0, .jsr 69]
  | 69 => [.ireturn]
  | _ => []
theorem k_X0_canMove : ∀ t, bok (mC 1) (mB 1) (mL 1) t (b_X0_canMove t) = true := by
  intro t
  unfold b_X0_canMove
  split
  all_goals first | decide +kernel | rfl
theorem e_X0_canMove {d : Nat} {av : List AV} {σ : Mem} {K : Option AV → Mem → Prop} (hl : (entL av).length ≤ 3) (h : wp d 1 b_X0_canMove K 400 (b_X0_canMove 0) (ent 3 av) [] σ) : Ev (d + 1) 1 av σ K := Ev.enter (by decide) (by decide +kernel) hl (wp_ok k_X0_canMove 400 _ 0 _ _ _ (k_X0_canMove 0) h)
theorem r_X0_canMove : mR 1 = (some .boolean) := by decide +kernel
def b_X0_isLet (t : Nat) : List Instr := match t with
  | 0 => [.aload 0, .checkcast 336, .iload 2, .sipush 1, .isub, .invokeinterface 1450 1, .ifCond .ne 15, .sipush 1, .ireturn]
  | 15 => [.aload 0, .checkcast 336, .invokeinterface 1514 0, .sipush 1, .iload 1, .ishl, .sipush (-1), .ixor, .iand, .multianewarray 301 1, .istore 3, .aload 0, .checkcast 336, .iload 1, .iload 2, .sipush 1, .isub, .aload 0, .checkcast 336, .iload 1, .invokeinterface 1306 1, .iload 3, .invokeinterface 1530 4, .ireturn]
  | _ => []
theorem k_X0_isLet : ∀ t, bok (mC 2) (mB 2) (mL 2) t (b_X0_isLet t) = true := by
  intro t
  unfold b_X0_isLet
  split
  all_goals first | decide +kernel | rfl
theorem e_X0_isLet {d : Nat} {av : List AV} {σ : Mem} {K : Option AV → Mem → Prop} (hl : (entL av).length ≤ 4) (h : wp d 2 b_X0_isLet K 400 (b_X0_isLet 0) (ent 4 av) [] σ) : Ev (d + 1) 2 av σ K := Ev.enter (by decide) (by decide +kernel) hl (wp_ok k_X0_isLet 400 _ 0 _ _ _ (k_X0_isLet 0) h)
theorem r_X0_isLet : mR 2 = (some .boolean) := by decide +kernel
def b_X0_owesBothWays (t : Nat) : List Instr := match t with
  | 0 => [.sipush 0, .istore 2, .jsr 2]
  | 2 => [.goto_w 2]
  | 58 => [.iinc 2 1, .goto 2]
  | 64 => [.sipush 0, .ireturn]
  | _ => []
theorem k_X0_owesBothWays : ∀ t, bok (mC 3) (mB 3) (mL 3) t (b_X0_owesBothWays t) = true := by
  intro t
  unfold b_X0_owesBothWays
  split
  all_goals first | decide +kernel | rfl
theorem e_X0_owesBothWays {d : Nat} {av : List AV} {σ : Mem} {K : Option AV → Mem → Prop} (hl : (entL av).length ≤ 3) (h : wp d 3 b_X0_owesBothWays K 400 (b_X0_owesBothWays 0) (ent 3 av) [] σ) : Ev (d + 1) 3 av σ K := Ev.enter (by decide) (by decide +kernel) hl (wp_ok k_X0_owesBothWays 400 _ 0 _ _ _ (k_X0_owesBothWays 0) h)
theorem r_X0_owesBothWays : mR 3 = (some .boolean) := by decide +kernel
def h_X0_owesBothWays_2 : List Instr := [.iload 2, .aload 0, .checkcast 336, .instanceof 643, .getfield 198, .if_icmp .ge 64, .aload 0, .checkcast 336, .checkcast 1310960, .checkcast 918576, .iload 2, .iaload, .sipush (-1), .if_icmp .eq 58, .aload 0, .checkcast 336, .iload 1, .iload 2, .invokeinterface 1338 2, .ifCond .le 58, .aload 0, .checkcast 336, .iload 2, .iload 1, .invokeinterface 1338 2, .ifCond .le 58, .sipush 1, .ireturn]
theorem l_X0_owesBothWays_2 {d : Nat} {ls st : List AV} {σ : Mem} {K : Option AV → Mem → Prop} (h : wp d 3 b_X0_owesBothWays K 400 h_X0_owesBothWays_2 ls st σ) : Rn (d + 1) 3 2 ls st σ K := wp_ok k_X0_owesBothWays 400 _ 2 _ _ _ (by decide +kernel) h
def b_X0_goTogether (t : Nat) : List Instr := match t with
  | 0 => [.aload 0, .checkcast 336, .iload 1, .invokeinterface 1482 1, .ifCond .eq 27, .aload 0, .checkcast 336, .iload 2, .invokeinterface 1482 1, .ifCond .eq 27, .iload 1, .iload 2, .if_icmp .ne 29, .jsr 27]
  | 27 => [.sipush 1, .ireturn]
  | 29 => [.aload 0, .checkcast 336, .checkcast 1310960, .checkcast 918576, .iload 1, .iaload, .sipush 1, .iadd, .istore 3, .aload 0, .iload 1, .iload 3, .invokeinterface 16 2, .ifCond .eq 80, .aload 0, .checkcast 336, .checkcast 1310960, .checkcast 918576, .iload 1, .iaload, .aload 0, .checkcast 336, .checkcast 1310960, .checkcast 918576, .iload 2, .iaload, .if_icmp .eq 82, .jsr 80]
  | 80 => [.sipush 2, .ireturn]
  | 82 => [.aload 0, .iload 1, .iload 3, .invokeinterface 32 2, .ifCond .eq 100, .aload 0, .iload 2, .iload 3, .invokeinterface 32 2, .ifCond .ne 102, .jsr 100]
  | 100 => [.sipush 3, .ireturn]
  | 102 => [.aload 0, .checkcast 336, .checkcast 1310960, .checkcast 918576, .iload 1, .iload 3, .iastore, .aload 0, .checkcast 336, .checkcast 1310960, .checkcast 918576, .iload 2, .iload 3, .iastore, .aload 0, .checkcast 336, .invokeinterface 1290 0, .sipush 0, .ireturn]
  | _ => []
theorem k_X0_goTogether : ∀ t, bok (mC 4) (mB 4) (mL 4) t (b_X0_goTogether t) = true := by
  intro t
  unfold b_X0_goTogether
  split
  all_goals first | decide +kernel | rfl
theorem e_X0_goTogether {d : Nat} {av : List AV} {σ : Mem} {K : Option AV → Mem → Prop} (hl : (entL av).length ≤ 4) (h : wp d 4 b_X0_goTogether K 400 (b_X0_goTogether 0) (ent 4 av) [] σ) : Ev (d + 1) 4 av σ K := Ev.enter (by decide) (by decide +kernel) hl (wp_ok k_X0_goTogether 400 _ 0 _ _ _ (k_X0_goTogether 0) h)
theorem r_X0_goTogether : mR 4 = (some .int) := by decide +kernel
def b_X0_tearPaper (t : Nat) : List Instr := match t with
  | 0 => [.aload 0, .checkcast 336, .iload 1, .invokeinterface 1482 1, .ifCond .eq 27, .aload 0, .checkcast 336, .iload 2, .invokeinterface 1482 1, .ifCond .eq 27, .iload 1, .iload 2, .if_icmp .ne 29, .jsr 27]
  | 27 => [.sipush 1, .ireturn]
  | 29 => [.aload 0, .checkcast 336, .iload 1, .iload 2, .invokeinterface 1338 2, .ifCond .ne 43, .sipush 2, .ireturn]
  | 43 => [.aload 0, .checkcast 336, .iload 1, .iload 2, .sipush 0, .invokeinterface 1546 3, .aload 0, .checkcast 336, .invokeinterface 1290 0, .sipush 0, .ireturn]
  | _ => []
theorem k_X0_tearPaper : ∀ t, bok (mC 5) (mB 5) (mL 5) t (b_X0_tearPaper t) = true := by
  intro t
  unfold b_X0_tearPaper
  split
  all_goals first | decide +kernel | rfl
theorem e_X0_tearPaper {d : Nat} {av : List AV} {σ : Mem} {K : Option AV → Mem → Prop} (hl : (entL av).length ≤ 3) (h : wp d 5 b_X0_tearPaper K 400 (b_X0_tearPaper 0) (ent 3 av) [] σ) : Ev (d + 1) 5 av σ K := Ev.enter (by decide) (by decide +kernel) hl (wp_ok k_X0_tearPaper 400 _ 0 _ _ _ (k_X0_tearPaper 0) h)
theorem r_X0_tearPaper : mR 5 = (some .int) := by decide +kernel
def b_X0_cancelRing (t : Nat) : List Instr := match t with
  | 0 => [.aload 1, .getfield 515, .sipush 2, .if_icmp .lt 34, .aload 1, .getfield 515, .sipush 6, .if_icmp .gt 34, .aload 1, .aload 0, .checkcast 336, .instanceof 643, .getfield 198, .invokeinterface 1016 1, .ifCond .ne 36, .jsr 34]
  | 34 => [.sipush 1, .ireturn]
  | 36 => [.sipush 0, .istore 2, .sipush 0, .istore 3, .jsr 40]
  | 40 => [.goto_w 40]
  | 76 => [.iload 3, .ifCond .ne 85, .iload 4, .goto 91]
  | 85 => [.iload 2, .iload 4, .dcmp .l, .jsr 91]
  | 91 => [.istore 2, .iinc 3 1, .goto 40]
  | 98 => [.sipush 0, .istore 3, .jsr 100]
  | 100 => [.goto_w 100]
  | 154 => [.aload 0, .iload 2, .putfield 2, .aload 0, .checkcast 336, .invokeinterface 1290 0, .sipush 0, .ireturn]
  | _ => []
theorem k_X0_cancelRing : ∀ t, bok (mC 6) (mB 6) (mL 6) t (b_X0_cancelRing t) = true := by
  intro t
  unfold b_X0_cancelRing
  split
  all_goals first | decide +kernel | rfl
theorem e_X0_cancelRing {d : Nat} {av : List AV} {σ : Mem} {K : Option AV → Mem → Prop} (hl : (entL av).length ≤ 6) (h : wp d 6 b_X0_cancelRing K 400 (b_X0_cancelRing 0) (ent 6 av) [] σ) : Ev (d + 1) 6 av σ K := Ev.enter (by decide) (by decide +kernel) hl (wp_ok k_X0_cancelRing 400 _ 0 _ _ _ (k_X0_cancelRing 0) h)
theorem r_X0_cancelRing : mR 6 = (some .int) := by decide +kernel
def h_X0_cancelRing_40 : List Instr := [.iload 3, .aload 1, .getfield 515, .if_icmp .ge 98, .aload 0, .checkcast 336, .aload 1, .iload 3, .invokeinterface 1032 1, .aload 1, .iload 3, .sipush 1, .iadd, .invokeinterface 1032 1, .invokeinterface 1338 2, .istore 4, .iload 4, .ifCond .ne 76, .sipush 2, .ireturn]
theorem l_X0_cancelRing_40 {d : Nat} {ls st : List AV} {σ : Mem} {K : Option AV → Mem → Prop} (h : wp d 6 b_X0_cancelRing K 400 h_X0_cancelRing_40 ls st σ) : Rn (d + 1) 6 40 ls st σ K := wp_ok k_X0_cancelRing 400 _ 40 _ _ _ (by decide +kernel) h
def h_X0_cancelRing_100 : List Instr := [.iload 3, .aload 1, .getfield 515, .if_icmp .ge 154, .aload 1, .iload 3, .invokeinterface 1032 1, .istore 4, .aload 1, .iload 3, .sipush 1, .iadd, .invokeinterface 1032 1, .istore 5, .aload 0, .checkcast 336, .iload 4, .iload 5, .aload 0, .checkcast 336, .iload 4, .iload 5, .invokeinterface 1338 2, .iload 2, .isub, .invokeinterface 1546 3, .iinc 3 1, .goto 100]
theorem l_X0_cancelRing_100 {d : Nat} {ls st : List AV} {σ : Mem} {K : Option AV → Mem → Prop} (h : wp d 6 b_X0_cancelRing K 400 h_X0_cancelRing_100 ls st σ) : Rn (d + 1) 6 100 ls st σ K := wp_ok k_X0_cancelRing 400 _ 100 _ _ _ (by decide +kernel) h
def b_X0_mendPlank (t : Nat) : List Instr := match t with
  | 0 => [.aload 0, .checkcast 336, .iload 1, .invokeinterface 1450 1, .ifCond .ne 13, .sipush 1, .ireturn]
  | 13 => [.aload 0, .checkcast 336, .iload 1, .invokeinterface 1418 1, .ifCond .eq 47, .aload 0, .checkcast 336, .checkcast 1310960, .dup, .getfield 451, .sipush 1, .iload 1, .ishl, .sipush (-1), .ixor, .iand, .putfield 451, .goto 85]
  | 47 => [.aload 0, .checkcast 336, .checkcast 1310960, .checkcast 922736, .iload 1, .iaload, .sipush 99, .if_icmp .ge 83, .aload 0, .checkcast 336, .checkcast 1310960, .checkcast 922736, .iload 1, .dup2, .iaload, .sipush 1, .iadd, .iastore, .goto 85]
  | 83 => [.sipush 2, .ireturn]
  | 85 => [.aload 0, .checkcast 336, .invokeinterface 1290 0, .sipush 0, .ireturn]
  | _ => []
theorem k_X0_mendPlank : ∀ t, bok (mC 7) (mB 7) (mL 7) t (b_X0_mendPlank t) = true := by
  intro t
  unfold b_X0_mendPlank
  split
  all_goals first | decide +kernel | rfl
theorem e_X0_mendPlank {d : Nat} {av : List AV} {σ : Mem} {K : Option AV → Mem → Prop} (hl : (entL av).length ≤ 2) (h : wp d 7 b_X0_mendPlank K 400 (b_X0_mendPlank 0) (ent 2 av) [] σ) : Ev (d + 1) 7 av σ K := Ev.enter (by decide) (by decide +kernel) hl (wp_ok k_X0_mendPlank 400 _ 0 _ _ _ (k_X0_mendPlank 0) h)
theorem r_X0_mendPlank : mR 7 = (some .int) := by decide +kernel
def b_X0_passDay (t : Nat) : List Instr := match t with
  | 0 => [.aload 0, .checkcast 336, .checkcast 1310960, .dup, .getfield 452, .sipush 1, .iadd, .putfield 452, .aload 0, .checkcast 336, .checkcast 1310960, .aload 0, .invokeinterface 144 0, .sipush 10, .irem, .aload 0, .checkcast 336, .instanceof 643, .getfield 199, .if_icmp .ge 47, .sipush 1, .goto 48]
  | 47 => [.sipush 0, .jsr 48]
  | 48 => [.putfield 453, .aload 0, .checkcast 336, .invokeinterface 1290 0, .sipush 0, .ireturn]
  | _ => []
theorem k_X0_passDay : ∀ t, bok (mC 8) (mB 8) (mL 8) t (b_X0_passDay t) = true := by
  intro t
  unfold b_X0_passDay
  split
  all_goals first | decide +kernel | rfl
theorem e_X0_passDay {d : Nat} {av : List AV} {σ : Mem} {K : Option AV → Mem → Prop} (hl : (entL av).length ≤ 1) (h : wp d 8 b_X0_passDay K 400 (b_X0_passDay 0) (ent 1 av) [] σ) : Ev (d + 1) 8 av σ K := Ev.enter (by decide) (by decide +kernel) hl (wp_ok k_X0_passDay 400 _ 0 _ _ _ (k_X0_passDay 0) h)
theorem r_X0_passDay : mR 8 = (some .int) := by decide +kernel
def b_X0_draw (t : Nat) : List Instr := match t with
  | 0 => [.aload 0, .checkcast 336, .checkcast 1310960, .sipush 1103515245, .aload 0, .checkcast 336, .checkcast 1310960, .getfield 454, .imul, .sipush 12345, .iadd, .putfield 454, .aload 0, .checkcast 336, .checkcast 1310960, .getfield 454, .sipush 16, .iushr, .ireturn]
  | _ => []
theorem k_X0_draw : ∀ t, bok (mC 9) (mB 9) (mL 9) t (b_X0_draw t) = true := by
  intro t
  unfold b_X0_draw
  split
  all_goals first | decide +kernel | rfl
theorem e_X0_draw {d : Nat} {av : List AV} {σ : Mem} {K : Option AV → Mem → Prop} (hl : (entL av).length ≤ 1) (h : wp d 9 b_X0_draw K 400 (b_X0_draw 0) (ent 1 av) [] σ) : Ev (d + 1) 9 av σ K := Ev.enter (by decide) (by decide +kernel) hl (wp_ok k_X0_draw 400 _ 0 _ _ _ (k_X0_draw 0) h)
theorem r_X0_draw : mR 9 = (some .int) := by decide +kernel
def b_X0_doAll (t : Nat) : List Instr := match t with
  | 0 => [.aload 0, .sipush 0, .putfield 1, .sipush 0, .istore 2, .jsr 7]
  | 7 => [.goto_w 7]
  | 38 => [.iinc 2 1, .goto 7]
  | 44 => [.aload 1, .getfield 515, .ireturn]
  | _ => []
theorem k_X0_doAll : ∀ t, bok (mC 10) (mB 10) (mL 10) t (b_X0_doAll t) = true := by
  intro t
  unfold b_X0_doAll
  split
  all_goals first | decide +kernel | rfl
theorem e_X0_doAll {d : Nat} {av : List AV} {σ : Mem} {K : Option AV → Mem → Prop} (hl : (entL av).length ≤ 3) (h : wp d 10 b_X0_doAll K 400 (b_X0_doAll 0) (ent 3 av) [] σ) : Ev (d + 1) 10 av σ K := Ev.enter (by decide) (by decide +kernel) hl (wp_ok k_X0_doAll 400 _ 0 _ _ _ (k_X0_doAll 0) h)
theorem r_X0_doAll : mR 10 = (some .int) := by decide +kernel
def h_X0_doAll_7 : List Instr := [.iload 2, .aload 1, .getfield 515, .if_icmp .ge 44, .aload 0, .aload 0, .aload 1, .checkcast 1049744, .iload 2, .laload, .invokeinterface 176 1, .putfield 1, .aload 0, .getfield 1, .ifCond .eq 38, .iload 2, .ireturn]
theorem l_X0_doAll_7 {d : Nat} {ls st : List AV} {σ : Mem} {K : Option AV → Mem → Prop} (h : wp d 10 b_X0_doAll K 400 h_X0_doAll_7 ls st σ) : Rn (d + 1) 10 7 ls st σ K := wp_ok k_X0_doAll 400 _ 7 _ _ _ (by decide +kernel) h
def b_X0_doOne (t : Nat) : List Instr := match t with
  | 0 => [.lload 1, .jsr_w (-1), .lcmp, .ifCond .ne 13, .aload 0, .invokeinterface 128 0, .ireturn]
  | 13 => [.lload 1, .jsr_w 0, .lcmp, .ifCond .lt 27, .lload 1, .jsr_w 309, .lcmp, .ifCond .le 29, .jsr 27]
  | 27 => [.sipush 1, .ireturn]
  | 29 => [.lload 1, .l2i, .istore 3, .iload 3, .sipush 100, .irem, .sipush 10, .idiv, .istore 4, .iload 3, .sipush 100, .idiv, .tableswitch 124 0 2 #[72, 102, 113]]
  | 72 => [.iload 3, .sipush 20, .if_icmp .ge 100, .aload 0, .iload 3, .sipush 10, .irem, .iload 3, .sipush 10, .if_icmp .ge 93, .sipush 1, .goto 94]
  | 93 => [.sipush (-1), .jsr 94]
  | 94 => [.invokeinterface 0 2, .goto 101]
  | 100 => [.sipush 1, .jsr 101]
  | 101 => [.ireturn]
  | 102 => [.aload 0, .iload 4, .iload 3, .sipush 10, .irem, .invokeinterface 64 2, .ireturn]
  | 113 => [.aload 0, .iload 4, .iload 3, .sipush 10, .irem, .invokeinterface 80 2, .ireturn]
  | 124 => [.aload 0, .iload 3, .sipush 300, .isub, .invokeinterface 112 1, .ireturn]
  | _ => []
theorem k_X0_doOne : ∀ t, bok (mC 11) (mB 11) (mL 11) t (b_X0_doOne t) = true := by
  intro t
  unfold b_X0_doOne
  split
  all_goals first | decide +kernel | rfl
theorem e_X0_doOne {d : Nat} {av : List AV} {σ : Mem} {K : Option AV → Mem → Prop} (hl : (entL av).length ≤ 5) (h : wp d 11 b_X0_doOne K 400 (b_X0_doOne 0) (ent 5 av) [] σ) : Ev (d + 1) 11 av σ K := Ev.enter (by decide) (by decide +kernel) hl (wp_ok k_X0_doOne 400 _ 0 _ _ _ (k_X0_doOne 0) h)
theorem r_X0_doOne : mR 11 = (some .int) := by decide +kernel
def b_X0_doDrawn (t : Nat) : List Instr := match t with
  | 0 => [.aload 0, .invokeinterface 144 0, .sipush 6, .irem, .istore 1, .iload 1, .ifCond .ne 17, .aload 0, .invokeinterface 128 0, .ireturn]
  | 17 => [.aload 0, .invokeinterface 144 0, .sipush 6, .irem, .istore 2, .iload 1, .sipush 4, .if_icmp .ge 37, .aload 0, .iload 2, .sipush 1, .invokeinterface 0 2, .ireturn]
  | 37 => [.aload 0, .invokeinterface 144 0, .sipush 6, .irem, .istore 3, .iload 1, .sipush 4, .if_icmp .ne 59, .aload 0, .iload 2, .iload 3, .invokeinterface 64 2, .goto 65]
  | 59 => [.aload 0, .iload 2, .iload 3, .invokeinterface 80 2, .jsr 65]
  | 65 => [.ireturn]
  | _ => []
theorem k_X0_doDrawn : ∀ t, bok (mC 12) (mB 12) (mL 12) t (b_X0_doDrawn t) = true := by
  intro t
  unfold b_X0_doDrawn
  split
  all_goals first | decide +kernel | rfl
theorem e_X0_doDrawn {d : Nat} {av : List AV} {σ : Mem} {K : Option AV → Mem → Prop} (hl : (entL av).length ≤ 4) (h : wp d 12 b_X0_doDrawn K 400 (b_X0_doDrawn 0) (ent 4 av) [] σ) : Ev (d + 1) 12 av σ K := Ev.enter (by decide) (by decide +kernel) hl (wp_ok k_X0_doDrawn 400 _ 0 _ _ _ (k_X0_doDrawn 0) h)
theorem r_X0_doDrawn : mR 12 = (some .int) := by decide +kernel
def b_X1_netOf (t : Nat) : List Instr := match t with
  | 0 => [.aload 0, .checkcast 131392, .iload 1, .invokeinterface 1386 1, .aload 0, .checkcast 131392, .iload 1, .invokeinterface 1322 1, .isub, .ireturn]
  | _ => []
theorem k_X1_netOf : ∀ t, bok (mC 13) (mB 13) (mL 13) t (b_X1_netOf t) = true := by
  intro t
  unfold b_X1_netOf
  split
  all_goals first | decide +kernel | rfl
theorem e_X1_netOf {d : Nat} {av : List AV} {σ : Mem} {K : Option AV → Mem → Prop} (hl : (entL av).length ≤ 2) (h : wp d 13 b_X1_netOf K 400 (b_X1_netOf 0) (ent 2 av) [] σ) : Ev (d + 1) 13 av σ K := Ev.enter (by decide) (by decide +kernel) hl (wp_ok k_X1_netOf 400 _ 0 _ _ _ (k_X1_netOf 0) h)
theorem r_X1_netOf : mR 13 = (some .int) := by decide +kernel
def b_X1_coinOfAll (t : Nat) : List Instr := match t with
  | 0 => [.sipush 0, .istore 1, .sipush 0, .istore 2, .jsr 4]
  | 4 => [.goto_w 4]
  | 36 => [.iload 1, .ireturn]
  | _ => []
theorem k_X1_coinOfAll : ∀ t, bok (mC 14) (mB 14) (mL 14) t (b_X1_coinOfAll t) = true := by
  intro t
  unfold b_X1_coinOfAll
  split
  all_goals first | decide +kernel | rfl
theorem e_X1_coinOfAll {d : Nat} {av : List AV} {σ : Mem} {K : Option AV → Mem → Prop} (hl : (entL av).length ≤ 3) (h : wp d 14 b_X1_coinOfAll K 400 (b_X1_coinOfAll 0) (ent 3 av) [] σ) : Ev (d + 1) 14 av σ K := Ev.enter (by decide) (by decide +kernel) hl (wp_ok k_X1_coinOfAll 400 _ 0 _ _ _ (k_X1_coinOfAll 0) h)
theorem r_X1_coinOfAll : mR 14 = (some .int) := by decide +kernel
def h_X1_coinOfAll_4 : List Instr := [.iload 2, .aload 0, .checkcast 131392, .instanceof 643, .getfield 198, .if_icmp .ge 36, .iload 1, .sipush 0, .aload 0, .iload 2, .invokeinterface 209 1, .dcmp .g, .iadd, .istore 1, .iinc 2 1, .goto 4]
theorem l_X1_coinOfAll_4 {d : Nat} {ls st : List AV} {σ : Mem} {K : Option AV → Mem → Prop} (h : wp d 14 b_X1_coinOfAll K 400 h_X1_coinOfAll_4 ls st σ) : Rn (d + 1) 14 4 ls st σ K := wp_ok k_X1_coinOfAll 400 _ 4 _ _ _ (by decide +kernel) h
def b_X1_fewestPapers (t : Nat) : List Instr := match t with
  | 0 => [.sipush 0, .istore 1, .sipush 0, .istore 2, .jsr 4]
  | 4 => [.goto_w 4]
  | 38 => [.iinc 2 1, .goto 4]
  | 44 => [.aload 0, .checkcast 139888, .sipush 0, .sipush 0, .iastore, .sipush 1, .istore 2, .jsr 53]
  | 53 => [.goto_w 53]
  | 78 => [.iload 1, .aload 0, .checkcast 139888, .sipush 1, .iload 1, .ishl, .sipush 1, .isub, .iaload, .isub, .ireturn]
  | _ => []
theorem k_X1_fewestPapers : ∀ t, bok (mC 15) (mB 15) (mL 15) t (b_X1_fewestPapers t) = true := by
  intro t
  unfold b_X1_fewestPapers
  split
  all_goals first | decide +kernel | rfl
theorem e_X1_fewestPapers {d : Nat} {av : List AV} {σ : Mem} {K : Option AV → Mem → Prop} (hl : (entL av).length ≤ 4) (h : wp d 15 b_X1_fewestPapers K 400 (b_X1_fewestPapers 0) (ent 4 av) [] σ) : Ev (d + 1) 15 av σ K := Ev.enter (by decide) (by decide +kernel) hl (wp_ok k_X1_fewestPapers 400 _ 0 _ _ _ (k_X1_fewestPapers 0) h)
theorem r_X1_fewestPapers : mR 15 = (some .int) := by decide +kernel
def h_X1_fewestPapers_4 : List Instr := [.iload 2, .aload 0, .checkcast 131392, .instanceof 643, .getfield 198, .if_icmp .ge 44, .aload 0, .iload 2, .invokeinterface 209 1, .istore 3, .iload 3, .ifCond .eq 38, .aload 0, .checkcast 137808, .iload 1, .iload 3, .iastore, .iinc 1 1, .jsr 38]
theorem l_X1_fewestPapers_4 {d : Nat} {ls st : List AV} {σ : Mem} {K : Option AV → Mem → Prop} (h : wp d 15 b_X1_fewestPapers K 400 h_X1_fewestPapers_4 ls st σ) : Rn (d + 1) 15 4 ls st σ K := wp_ok k_X1_fewestPapers 400 _ 4 _ _ _ (by decide +kernel) h
def h_X1_fewestPapers_53 : List Instr := [.iload 2, .sipush 1, .iload 1, .ishl, .if_icmp .ge 78, .aload 0, .checkcast 139888, .iload 2, .aload 0, .iload 2, .iload 1, .invokeinterface 257 2, .iastore, .iinc 2 1, .goto 53]
theorem l_X1_fewestPapers_53 {d : Nat} {ls st : List AV} {σ : Mem} {K : Option AV → Mem → Prop} (h : wp d 15 b_X1_fewestPapers K 400 h_X1_fewestPapers_53 ls st σ) : Rn (d + 1) 15 53 ls st σ K := wp_ok k_X1_fewestPapers 400 _ 53 _ _ _ (by decide +kernel) h
def b_X1_mostGroups (t : Nat) : List Instr := match t with
  | 0 => [.sipush 0, .istore 3, .sipush 0, .istore 4, .sipush 0, .istore 5, .jsr 8]
  | 8 => [.goto_w 8]
  | 53 => [.iinc 5 1, .goto 8]
  | 59 => [.iload 4, .ifCond .ne 70, .iload 3, .sipush 1, .iadd, .goto 71]
  | 70 => [.iload 3, .jsr 71]
  | 71 => [.ireturn]
  | _ => []
theorem k_X1_mostGroups : ∀ t, bok (mC 16) (mB 16) (mL 16) t (b_X1_mostGroups t) = true := by
  intro t
  unfold b_X1_mostGroups
  split
  all_goals first | decide +kernel | rfl
theorem e_X1_mostGroups {d : Nat} {av : List AV} {σ : Mem} {K : Option AV → Mem → Prop} (hl : (entL av).length ≤ 6) (h : wp d 16 b_X1_mostGroups K 400 (b_X1_mostGroups 0) (ent 6 av) [] σ) : Ev (d + 1) 16 av σ K := Ev.enter (by decide) (by decide +kernel) hl (wp_ok k_X1_mostGroups 400 _ 0 _ _ _ (k_X1_mostGroups 0) h)
theorem r_X1_mostGroups : mR 16 = (some .int) := by decide +kernel
def h_X1_mostGroups_8 : List Instr := [.iload 5, .iload 2, .if_icmp .ge 59, .iload 1, .iload 5, .ishr, .sipush 1, .iand, .ifCond .eq 53, .iload 4, .aload 0, .checkcast 137808, .iload 5, .iaload, .iadd, .istore 4, .iload 3, .aload 0, .checkcast 139888, .iload 1, .sipush 1, .iload 5, .ishl, .sipush (-1), .ixor, .iand, .iaload, .dcmp .g, .istore 3, .jsr 53]
theorem l_X1_mostGroups_8 {d : Nat} {ls st : List AV} {σ : Mem} {K : Option AV → Mem → Prop} (h : wp d 16 b_X1_mostGroups K 400 h_X1_mostGroups_8 ls st σ) : Rn (d + 1) 16 8 ls st σ K := wp_ok k_X1_mostGroups 400 _ 8 _ _ _ (by decide +kernel) h
def b_X1_findRings (t : Nat) : List Instr := match t with
  | 0 => [.aload 0, .sipush 0, .putfield 71, .aload 0, .sipush 0, .putfield 69, .aload 0, .sipush 0, .putfield 70, .sipush 0, .istore 1, .jsr 17]
  | 17 => [.goto_w 17]
  | 54 => [.return_]
  | _ => []
theorem k_X1_findRings : ∀ t, bok (mC 17) (mB 17) (mL 17) t (b_X1_findRings t) = true := by
  intro t
  unfold b_X1_findRings
  split
  all_goals first | decide +kernel | rfl
theorem e_X1_findRings {d : Nat} {av : List AV} {σ : Mem} {K : Option AV → Mem → Prop} (hl : (entL av).length ≤ 2) (h : wp d 17 b_X1_findRings K 400 (b_X1_findRings 0) (ent 2 av) [] σ) : Ev (d + 1) 17 av σ K := Ev.enter (by decide) (by decide +kernel) hl (wp_ok k_X1_findRings 400 _ 0 _ _ _ (k_X1_findRings 0) h)
theorem r_X1_findRings : mR 17 = none := by decide +kernel
def h_X1_findRings_17 : List Instr := [.iload 1, .aload 0, .checkcast 131392, .instanceof 643, .getfield 198, .if_icmp .ge 54, .aload 0, .checkcast 133648, .sipush 0, .iload 1, .iastore, .aload 0, .sipush 1, .sipush 1, .iload 1, .ishl, .sipush 99, .invokeinterface 289 3, .iinc 1 1, .goto 17]
theorem l_X1_findRings_17 {d : Nat} {ls st : List AV} {σ : Mem} {K : Option AV → Mem → Prop} (h : wp d 17 b_X1_findRings K 400 h_X1_findRings_17 ls st σ) : Rn (d + 1) 17 17 ls st σ K := wp_ok k_X1_findRings 400 _ 17 _ _ _ (by decide +kernel) h
def b_X1_follow (t : Nat) : List Instr := match t with
  | 0 => [.aload 0, .checkcast 133648, .iload 1, .sipush 1, .isub, .iaload, .istore 4, .aload 0, .checkcast 131392, .iload 4, .aload 0, .checkcast 133648, .sipush 0, .iaload, .invokeinterface 1338 2, .istore 5, .iload 5, .ifCond .le 43, .aload 0, .iload 1, .iload 3, .iload 5, .dcmp .l, .invokeinterface 305 2, .jsr 43]
  | 43 => [.aload 0, .checkcast 133648, .sipush 0, .iaload, .sipush 1, .iadd, .istore 6, .jsr 53]
  | 53 => [.goto_w 53]
  | 128 => [.iinc 6 1, .goto 53]
  | 134 => [.return_]
  | _ => []
theorem k_X1_follow : ∀ t, bok (mC 18) (mB 18) (mL 18) t (b_X1_follow t) = true := by
  intro t
  unfold b_X1_follow
  split
  all_goals first | decide +kernel | rfl
theorem e_X1_follow {d : Nat} {av : List AV} {σ : Mem} {K : Option AV → Mem → Prop} (hl : (entL av).length ≤ 8) (h : wp d 18 b_X1_follow K 400 (b_X1_follow 0) (ent 8 av) [] σ) : Ev (d + 1) 18 av σ K := Ev.enter (by decide) (by decide +kernel) hl (wp_ok k_X1_follow 400 _ 0 _ _ _ (k_X1_follow 0) h)
theorem r_X1_follow : mR 18 = none := by decide +kernel
def h_X1_follow_53 : List Instr := [.iload 6, .aload 0, .checkcast 131392, .instanceof 643, .getfield 198, .if_icmp .ge 134, .iload 1, .sipush 6, .if_icmp .ge 134, .aload 0, .checkcast 131392, .iload 4, .iload 6, .invokeinterface 1338 2, .istore 7, .iload 7, .ifCond .le 128, .iload 2, .iload 6, .ishr, .sipush 1, .iand, .ifCond .ne 128, .aload 0, .checkcast 133648, .iload 1, .iload 6, .iastore, .aload 0, .iload 1, .sipush 1, .iadd, .iload 2, .sipush 1, .iload 6, .ishl, .ior, .iload 3, .iload 7, .dcmp .l, .invokeinterface 289 3, .jsr 128]
theorem l_X1_follow_53 {d : Nat} {ls st : List AV} {σ : Mem} {K : Option AV → Mem → Prop} (h : wp d 18 b_X1_follow K 400 h_X1_follow_53 ls st σ) : Rn (d + 1) 18 53 ls st σ K := wp_ok k_X1_follow 400 _ 53 _ _ _ (by decide +kernel) h
def b_X1_close (t : Nat) : List Instr := match t with
  | 0 => [.aload 0, .dup, .getfield 71, .sipush 1, .iadd, .putfield 71, .iload 2, .iload 1, .imul, .aload 0, .getfield 70, .if_icmp .le 47, .aload 0, .iload 2, .iload 1, .imul, .putfield 70, .aload 0, .iload 1, .putfield 69, .aload 0, .checkcast 133648, .sipush 0, .aload 0, .checkcast 135728, .sipush 0, .sipush 6, .monitorenter, .jsr 47]
  | 47 => [.return_]
  | _ => []
theorem k_X1_close : ∀ t, bok (mC 19) (mB 19) (mL 19) t (b_X1_close t) = true := by
  intro t
  unfold b_X1_close
  split
  all_goals first | decide +kernel | rfl
theorem e_X1_close {d : Nat} {av : List AV} {σ : Mem} {K : Option AV → Mem → Prop} (hl : (entL av).length ≤ 3) (h : wp d 19 b_X1_close K 400 (b_X1_close 0) (ent 3 av) [] σ) : Ev (d + 1) 19 av σ K := Ev.enter (by decide) (by decide +kernel) hl (wp_ok k_X1_close 400 _ 0 _ _ _ (k_X1_close 0) h)
theorem r_X1_close : mR 19 = none := by decide +kernel
def b_X2_forget (t : Nat) : List Instr := match t with
  | 0 => [.aload 0, .sipush 0, .putfield 130, .return_]
  | _ => []
theorem k_X2_forget : ∀ t, bok (mC 20) (mB 20) (mL 20) t (b_X2_forget t) = true := by
  intro t
  unfold b_X2_forget
  split
  all_goals first | decide +kernel | rfl
theorem e_X2_forget {d : Nat} {av : List AV} {σ : Mem} {K : Option AV → Mem → Prop} (hl : (entL av).length ≤ 1) (h : wp d 20 b_X2_forget K 400 (b_X2_forget 0) (ent 1 av) [] σ) : Ev (d + 1) 20 av σ K := Ev.enter (by decide) (by decide +kernel) hl (wp_ok k_X2_forget 400 _ 0 _ _ _ (k_X2_forget 0) h)
theorem r_X2_forget : mR 20 = none := by decide +kernel
def b_X2_mark (t : Nat) : List Instr := match t with
  | 0 => [.aload 0, .checkcast 262800, .aload 0, .getfield 129, .aload 0, .getfield 130, .iadd, .sipush 11, .irem, .aaload, .aload 1, .invokeinterface 999 1, .return_]
  | _ => []
theorem k_X2_mark : ∀ t, bok (mC 21) (mB 21) (mL 21) t (b_X2_mark t) = true := by
  intro t
  unfold b_X2_mark
  split
  all_goals first | decide +kernel | rfl
theorem e_X2_mark {d : Nat} {av : List AV} {σ : Mem} {K : Option AV → Mem → Prop} (hl : (entL av).length ≤ 2) (h : wp d 21 b_X2_mark K 400 (b_X2_mark 0) (ent 2 av) [] σ) : Ev (d + 1) 21 av σ K := Ev.enter (by decide) (by decide +kernel) hl (wp_ok k_X2_mark 400 _ 0 _ _ _ (k_X2_mark 0) h)
theorem r_X2_mark : mR 21 = none := by decide +kernel
def b_X2_keep (t : Nat) : List Instr := match t with
  | 0 => [.aload 0, .getfield 130, .sipush 10, .if_icmp .ge 22, .aload 0, .dup, .getfield 130, .sipush 1, .iadd, .putfield 130, .goto 35]
  | 22 => [.aload 0, .aload 0, .getfield 129, .sipush 1, .iadd, .sipush 11, .irem, .putfield 129, .jsr 35]
  | 35 => [.return_]
  | _ => []
theorem k_X2_keep : ∀ t, bok (mC 22) (mB 22) (mL 22) t (b_X2_keep t) = true := by
  intro t
  unfold b_X2_keep
  split
  all_goals first | decide +kernel | rfl
theorem e_X2_keep {d : Nat} {av : List AV} {σ : Mem} {K : Option AV → Mem → Prop} (hl : (entL av).length ≤ 1) (h : wp d 22 b_X2_keep K 400 (b_X2_keep 0) (ent 1 av) [] σ) : Ev (d + 1) 22 av σ K := Ev.enter (by decide) (by decide +kernel) hl (wp_ok k_X2_keep 400 _ 0 _ _ _ (k_X2_keep 0) h)
theorem r_X2_keep : mR 22 = none := by decide +kernel
def b_X2_bringBack (t : Nat) : List Instr := match t with
  | 0 => [.iload 1, .sipush 1, .if_icmp .lt 13, .iload 1, .aload 0, .getfield 130, .if_icmp .le 14, .jsr 13]
  | 13 => [.return_]
  | 14 => [.aload 0, .dup, .getfield 130, .iload 1, .isub, .putfield 130, .aload 2, .aload 0, .checkcast 262800, .aload 0, .getfield 129, .aload 0, .getfield 130, .iadd, .sipush 11, .irem, .aaload, .invokeinterface 999 1, .return_]
  | _ => []
theorem k_X2_bringBack : ∀ t, bok (mC 23) (mB 23) (mL 23) t (b_X2_bringBack t) = true := by
  intro t
  unfold b_X2_bringBack
  split
  all_goals first | decide +kernel | rfl
theorem e_X2_bringBack {d : Nat} {av : List AV} {σ : Mem} {K : Option AV → Mem → Prop} (hl : (entL av).length ≤ 3) (h : wp d 23 b_X2_bringBack K 400 (b_X2_bringBack 0) (ent 3 av) [] σ) : Ev (d + 1) 23 av σ K := Ev.enter (by decide) (by decide +kernel) hl (wp_ok k_X2_bringBack 400 _ 0 _ _ _ (k_X2_bringBack 0) h)
theorem r_X2_bringBack : mR 23 = none := by decide +kernel
def b_X4_advance (t : Nat) : List Instr := match t with
  | 0 => [.goto_w 0]
  | 39 => [.aload 0, .dup, .getfield 260, .sipush 1, .iadd, .putfield 260, .goto 0]
  | 52 => [.aload 0, .aload 0, .getfield 260, .putfield 259, .aload 0, .aload 0, .getfield 259, .aload 0, .getfield 258, .if_icmp .ge 76, .sipush 4, .goto 77]
  | 76 => [.sipush 0, .jsr 77]
  | 77 => [.putfield 261, .jsr 80]
  | 80 => [.goto_w 80]
  | 137 => [.aload 0, .getfield 261, .sipush 4, .if_icmp .eq 146, .return_]
  | 146 => [.aload 0, .sipush 0, .putfield 262, .jsr 151]
  | 151 => [.goto_w 151]
  | 231 => [.aload 0, .getfield 260, .aload 0, .getfield 259, .if_icmp .le 267, .aload 0, .aload 0, .getfield 260, .aload 0, .getfield 259, .isub, .sipush 3, .if_icmp .le 260, .sipush 4, .goto 261]
  | 260 => [.sipush 2, .jsr 261]
  | 261 => [.putfield 261, .goto 304]
  | 267 => [.ldc 0, .aload 0, .checkcast 525568, .aload 0, .getfield 259, .baload, .sipush 255, .iand, .i2c, .invokevirtual 308, .ifCond .lt 304, .aload 0, .sipush 3, .putfield 261, .aload 0, .dup, .getfield 260, .sipush 1, .iadd, .putfield 260, .jsr 304]
  | 304 => [.return_]
  | _ => []
theorem k_X4_advance : ∀ t, bok (mC 25) (mB 25) (mL 25) t (b_X4_advance t) = true := by
  intro t
  unfold b_X4_advance
  split
  all_goals first | decide +kernel | rfl
theorem e_X4_advance {d : Nat} {av : List AV} {σ : Mem} {K : Option AV → Mem → Prop} (hl : (entL av).length ≤ 1) (h : wp d 25 b_X4_advance K 400 (b_X4_advance 0) (ent 1 av) [] σ) : Ev (d + 1) 25 av σ K := Ev.enter (by decide) (by decide +kernel) hl (wp_ok k_X4_advance 400 _ 0 _ _ _ (k_X4_advance 0) h)
theorem r_X4_advance : mR 25 = none := by decide +kernel
def h_X4_advance_0 : List Instr := [.aload 0, .getfield 260, .aload 0, .getfield 258, .if_icmp .ge 52, .aload 0, .checkcast 525568, .aload 0, .getfield 260, .baload, .sipush 10, .if_icmp .eq 39, .aload 0, .checkcast 525568, .aload 0, .getfield 260, .baload, .sipush 32, .if_icmp .ne 52, .jsr 39]
theorem l_X4_advance_0 {d : Nat} {ls st : List AV} {σ : Mem} {K : Option AV → Mem → Prop} (h : wp d 25 b_X4_advance K 400 h_X4_advance_0 ls st σ) : Rn (d + 1) 25 0 ls st σ K := wp_ok k_X4_advance 400 _ 0 _ _ _ (by decide +kernel) h
def h_X4_advance_80 : List Instr := [.aload 0, .getfield 260, .aload 0, .getfield 258, .if_icmp .ge 137, .aload 0, .checkcast 525568, .aload 0, .getfield 260, .baload, .sipush 97, .if_icmp .lt 137, .aload 0, .checkcast 525568, .aload 0, .getfield 260, .baload, .sipush 122, .if_icmp .gt 137, .aload 0, .sipush 1, .putfield 261, .aload 0, .dup, .getfield 260, .sipush 1, .iadd, .putfield 260, .goto 80]
theorem l_X4_advance_80 {d : Nat} {ls st : List AV} {σ : Mem} {K : Option AV → Mem → Prop} (h : wp d 25 b_X4_advance K 400 h_X4_advance_80 ls st σ) : Rn (d + 1) 25 80 ls st σ K := wp_ok k_X4_advance 400 _ 80 _ _ _ (by decide +kernel) h
def h_X4_advance_151 : List Instr := [.aload 0, .getfield 260, .aload 0, .getfield 258, .if_icmp .ge 231, .aload 0, .checkcast 525568, .aload 0, .getfield 260, .baload, .sipush 48, .if_icmp .lt 231, .aload 0, .checkcast 525568, .aload 0, .getfield 260, .baload, .sipush 57, .if_icmp .gt 231, .aload 0, .aload 0, .getfield 262, .sipush 1000, .irem, .sipush 10, .imul, .aload 0, .checkcast 525568, .aload 0, .getfield 260, .baload, .iadd, .sipush 48, .isub, .putfield 262, .aload 0, .dup, .getfield 260, .sipush 1, .iadd, .putfield 260, .goto 151]
theorem l_X4_advance_151 {d : Nat} {ls st : List AV} {σ : Mem} {K : Option AV → Mem → Prop} (h : wp d 25 b_X4_advance K 400 h_X4_advance_151 ls st σ) : Rn (d + 1) 25 151 ls st σ K := wp_ok k_X4_advance 400 _ 151 _ _ _ (by decide +kernel) h
def b_X4_readPlanks (t : Nat) : List Instr := match t with
  | 0 => [.aload 0, .ldc 1, .invokeinterface 436 1, .ifCond .ne 11, .sipush 0, .ireturn]
  | 11 => [.aload 0, .sipush 1, .sipush 8, .invokeinterface 484 2, .istore 1, .iload 1, .sipush (-1), .if_icmp .eq 33, .aload 0, .ldc 2, .invokeinterface 436 1, .ifCond .ne 35, .jsr 33]
  | 33 => [.sipush 0, .ireturn]
  | 35 => [.aload 0, .sipush 0, .sipush 999, .invokeinterface 484 2, .istore 2, .iload 2, .sipush (-1), .if_icmp .ne 51, .sipush 0, .ireturn]
  | 51 => [.aload 0, .instanceof 265, .iload 1, .putfield 197, .aload 0, .instanceof 265, .checkcast 393904, .iload 2, .multianewarray 300 2, .aload 0, .invokeinterface 500 0, .ireturn]
  | _ => []
theorem k_X4_readPlanks : ∀ t, bok (mC 26) (mB 26) (mL 26) t (b_X4_readPlanks t) = true := by
  intro t
  unfold b_X4_readPlanks
  split
  all_goals first | decide +kernel | rfl
theorem e_X4_readPlanks {d : Nat} {av : List AV} {σ : Mem} {K : Option AV → Mem → Prop} (hl : (entL av).length ≤ 3) (h : wp d 26 b_X4_readPlanks K 400 (b_X4_readPlanks 0) (ent 3 av) [] σ) : Ev (d + 1) 26 av σ K := Ev.enter (by decide) (by decide +kernel) hl (wp_ok k_X4_readPlanks 400 _ 0 _ _ _ (k_X4_readPlanks 0) h)
theorem r_X4_readPlanks : mR 26 = (some .boolean) := by decide +kernel
def b_X4_takeWord (t : Nat) : List Instr := match t with
  | 0 => [.aload 0, .aload 1, .invokeinterface 452 1, .ifCond .ne 14, .aload 0, .sipush 2, .invokeinterface 468 1, .ireturn]
  | 14 => [.aload 0, .invokeinterface 404 0, .sipush 1, .ireturn]
  | _ => []
theorem k_X4_takeWord : ∀ t, bok (mC 27) (mB 27) (mL 27) t (b_X4_takeWord t) = true := by
  intro t
  unfold b_X4_takeWord
  split
  all_goals first | decide +kernel | rfl
theorem e_X4_takeWord {d : Nat} {av : List AV} {σ : Mem} {K : Option AV → Mem → Prop} (hl : (entL av).length ≤ 2) (h : wp d 27 b_X4_takeWord K 400 (b_X4_takeWord 0) (ent 2 av) [] σ) : Ev (d + 1) 27 av σ K := Ev.enter (by decide) (by decide +kernel) hl (wp_ok k_X4_takeWord 400 _ 0 _ _ _ (k_X4_takeWord 0) h)
theorem r_X4_takeWord : mR 27 = (some .boolean) := by decide +kernel
def b_X4_isWord (t : Nat) : List Instr := match t with
  | 0 => [.aload 0, .getfield 261, .sipush 1, .if_icmp .ne 24, .aload 0, .getfield 260, .aload 0, .getfield 259, .isub, .aload 1, .invokevirtual 303, .if_icmp .eq 26, .jsr 24]
  | 24 => [.sipush 0, .ireturn]
  | 26 => [.sipush 0, .istore 2, .jsr 28]
  | 28 => [.goto_w 28]
  | 57 => [.iinc 2 1, .goto 28]
  | 63 => [.sipush 1, .ireturn]
  | _ => []
theorem k_X4_isWord : ∀ t, bok (mC 28) (mB 28) (mL 28) t (b_X4_isWord t) = true := by
  intro t
  unfold b_X4_isWord
  split
  all_goals first | decide +kernel | rfl
theorem e_X4_isWord {d : Nat} {av : List AV} {σ : Mem} {K : Option AV → Mem → Prop} (hl : (entL av).length ≤ 3) (h : wp d 28 b_X4_isWord K 400 (b_X4_isWord 0) (ent 3 av) [] σ) : Ev (d + 1) 28 av σ K := Ev.enter (by decide) (by decide +kernel) hl (wp_ok k_X4_isWord 400 _ 0 _ _ _ (k_X4_isWord 0) h)
theorem r_X4_isWord : mR 28 = (some .boolean) := by decide +kernel
def h_X4_isWord_28 : List Instr := [.iload 2, .aload 1, .invokevirtual 303, .if_icmp .ge 63, .aload 0, .checkcast 525568, .aload 0, .getfield 259, .iload 2, .iadd, .baload, .aload 1, .iload 2, .invokevirtual 306, .if_icmp .eq 57, .sipush 0, .ireturn]
theorem l_X4_isWord_28 {d : Nat} {ls st : List AV} {σ : Mem} {K : Option AV → Mem → Prop} (h : wp d 28 b_X4_isWord K 400 h_X4_isWord_28 ls st σ) : Rn (d + 1) 28 28 ls st σ K := wp_ok k_X4_isWord 400 _ 28 _ _ _ (by decide +kernel) h
def b_X4_refuse (t : Nat) : List Instr := match t with
  | 0 => [.aload 0, .aload 0, .getfield 261, .sipush 4, .if_icmp .ne 13, .sipush 1, .goto 14]
  | 13 => [.iload 1, .jsr 14]
  | 14 => [.putfield 266, .aload 0, .aload 0, .getfield 259, .putfield 267, .sipush 0, .ireturn]
  | _ => []
theorem k_X4_refuse : ∀ t, bok (mC 29) (mB 29) (mL 29) t (b_X4_refuse t) = true := by
  intro t
  unfold b_X4_refuse
  split
  all_goals first | decide +kernel | rfl
theorem e_X4_refuse {d : Nat} {av : List AV} {σ : Mem} {K : Option AV → Mem → Prop} (hl : (entL av).length ≤ 2) (h : wp d 29 b_X4_refuse K 400 (b_X4_refuse 0) (ent 2 av) [] σ) : Ev (d + 1) 29 av σ K := Ev.enter (by decide) (by decide +kernel) hl (wp_ok k_X4_refuse 400 _ 0 _ _ _ (k_X4_refuse 0) h)
theorem r_X4_refuse : mR 29 = (some .boolean) := by decide +kernel
def b_X4_takeNumber (t : Nat) : List Instr := match t with
  | 0 => [.aload 0, .getfield 261, .sipush 2, .if_icmp .eq 16, .aload 0, .sipush 2, .invokeinterface 468 1, .pop, .sipush (-1), .ireturn]
  | 16 => [.aload 0, .getfield 262, .iload 1, .if_icmp .lt 32, .aload 0, .getfield 262, .iload 2, .if_icmp .le 40, .jsr 32]
  | 32 => [.aload 0, .sipush 3, .invokeinterface 468 1, .pop, .sipush (-1), .ireturn]
  | 40 => [.aload 0, .getfield 262, .istore 3, .aload 0, .invokeinterface 404 0, .iload 3, .ireturn]
  | _ => []
theorem k_X4_takeNumber : ∀ t, bok (mC 30) (mB 30) (mL 30) t (b_X4_takeNumber t) = true := by
  intro t
  unfold b_X4_takeNumber
  split
  all_goals first | decide +kernel | rfl
theorem e_X4_takeNumber {d : Nat} {av : List AV} {σ : Mem} {K : Option AV → Mem → Prop} (hl : (entL av).length ≤ 4) (h : wp d 30 b_X4_takeNumber K 400 (b_X4_takeNumber 0) (ent 4 av) [] σ) : Ev (d + 1) 30 av σ K := Ev.enter (by decide) (by decide +kernel) hl (wp_ok k_X4_takeNumber 400 _ 0 _ _ _ (k_X4_takeNumber 0) h)
theorem r_X4_takeNumber : mR 30 = (some .int) := by decide +kernel
def b_X4_endLine (t : Nat) : List Instr := match t with
  | 0 => [.aload 0, .sipush 59, .invokeinterface 516 1, .ifCond .ne 11, .sipush 0, .ireturn]
  | 11 => [.aload 0, .instanceof 265, .dup, .getfield 201, .sipush 1, .iadd, .putfield 201, .sipush 1, .ireturn]
  | _ => []
theorem k_X4_endLine : ∀ t, bok (mC 31) (mB 31) (mL 31) t (b_X4_endLine t) = true := by
  intro t
  unfold b_X4_endLine
  split
  all_goals first | decide +kernel | rfl
theorem e_X4_endLine {d : Nat} {av : List AV} {σ : Mem} {K : Option AV → Mem → Prop} (hl : (entL av).length ≤ 1) (h : wp d 31 b_X4_endLine K 400 (b_X4_endLine 0) (ent 1 av) [] σ) : Ev (d + 1) 31 av σ K := Ev.enter (by decide) (by decide +kernel) hl (wp_ok k_X4_endLine 400 _ 0 _ _ _ (k_X4_endLine 0) h)
theorem r_X4_endLine : mR 31 = (some .boolean) := by decide +kernel
def b_X4_takeSign (t : Nat) : List Instr := match t with
  | 0 => [.aload 0, .iload 1, .invokeinterface 532 1, .ifCond .ne 14, .aload 0, .sipush 2, .invokeinterface 468 1, .ireturn]
  | 14 => [.aload 0, .invokeinterface 404 0, .sipush 1, .ireturn]
  | _ => []
theorem k_X4_takeSign : ∀ t, bok (mC 32) (mB 32) (mL 32) t (b_X4_takeSign t) = true := by
  intro t
  unfold b_X4_takeSign
  split
  all_goals first | decide +kernel | rfl
theorem e_X4_takeSign {d : Nat} {av : List AV} {σ : Mem} {K : Option AV → Mem → Prop} (hl : (entL av).length ≤ 2) (h : wp d 32 b_X4_takeSign K 400 (b_X4_takeSign 0) (ent 2 av) [] σ) : Ev (d + 1) 32 av σ K := Ev.enter (by decide) (by decide +kernel) hl (wp_ok k_X4_takeSign 400 _ 0 _ _ _ (k_X4_takeSign 0) h)
theorem r_X4_takeSign : mR 32 = (some .boolean) := by decide +kernel
def b_X4_isSign (t : Nat) : List Instr := match t with
  | 0 => [.aload 0, .getfield 261, .sipush 3, .if_icmp .ne 25, .aload 0, .checkcast 525568, .aload 0, .getfield 259, .baload, .iload 1, .if_icmp .ne 25, .sipush 1, .goto 26]
  | 25 => [.sipush 0, .jsr 26]
  | 26 => [.ireturn]
  | _ => []
theorem k_X4_isSign : ∀ t, bok (mC 33) (mB 33) (mL 33) t (b_X4_isSign t) = true := by
  intro t
  unfold b_X4_isSign
  split
  all_goals first | decide +kernel | rfl
theorem e_X4_isSign {d : Nat} {av : List AV} {σ : Mem} {K : Option AV → Mem → Prop} (hl : (entL av).length ≤ 2) (h : wp d 33 b_X4_isSign K 400 (b_X4_isSign 0) (ent 2 av) [] σ) : Ev (d + 1) 33 av σ K := Ev.enter (by decide) (by decide +kernel) hl (wp_ok k_X4_isSign 400 _ 0 _ _ _ (k_X4_isSign 0) h)
theorem r_X4_isSign : mR 33 = (some .boolean) := by decide +kernel
def b_X4_readLine (t : Nat) : List Instr := match t with
  | 0 => [.aload 0, .ldc 3, .invokeinterface 452 1, .ifCond .eq 14, .aload 0, .invokeinterface 564 0, .ireturn]
  | 14 => [.aload 0, .ldc 5, .invokeinterface 452 1, .ifCond .eq 28, .aload 0, .invokeinterface 580 0, .ireturn]
  | 28 => [.aload 0, .ldc 7, .invokeinterface 452 1, .ifCond .eq 42, .aload 0, .invokeinterface 596 0, .ireturn]
  | 42 => [.aload 0, .ldc 10, .invokeinterface 452 1, .ifCond .eq 56, .aload 0, .invokeinterface 612 0, .ireturn]
  | 56 => [.aload 0, .ldc 19, .invokeinterface 452 1, .ifCond .eq 70, .aload 0, .invokeinterface 708 0, .ireturn]
  | 70 => [.aload 0, .ldc 23, .invokeinterface 452 1, .ifCond .eq 84, .aload 0, .invokeinterface 788 0, .ireturn]
  | 84 => [.aload 0, .ldc 12, .invokeinterface 452 1, .ifCond .eq 100, .aload 0, .invokeinterface 804 0, .goto 105]
  | 100 => [.aload 0, .sipush 2, .invokeinterface 468 1, .jsr 105]
  | 105 => [.ireturn]
  | _ => []
theorem k_X4_readLine : ∀ t, bok (mC 34) (mB 34) (mL 34) t (b_X4_readLine t) = true := by
  intro t
  unfold b_X4_readLine
  split
  all_goals first | decide +kernel | rfl
theorem e_X4_readLine {d : Nat} {av : List AV} {σ : Mem} {K : Option AV → Mem → Prop} (hl : (entL av).length ≤ 1) (h : wp d 34 b_X4_readLine K 400 (b_X4_readLine 0) (ent 1 av) [] σ) : Ev (d + 1) 34 av σ K := Ev.enter (by decide) (by decide +kernel) hl (wp_ok k_X4_readLine 400 _ 0 _ _ _ (k_X4_readLine 0) h)
theorem r_X4_readLine : mR 34 = (some .boolean) := by decide +kernel
def b_X4_readPlank (t : Nat) : List Instr := match t with
  | 0 => [.aload 0, .invokeinterface 404 0, .aload 0, .sipush 0, .aload 0, .instanceof 265, .getfield 197, .sipush 1, .isub, .invokeinterface 484 2, .istore 1, .iload 1, .sipush (-1), .if_icmp .eq 33, .aload 0, .ldc 4, .invokeinterface 436 1, .ifCond .ne 35, .jsr 33]
  | 33 => [.sipush 0, .ireturn]
  | 35 => [.aload 0, .sipush 0, .sipush 999, .invokeinterface 484 2, .istore 2, .iload 2, .sipush (-1), .if_icmp .ne 51, .sipush 0, .ireturn]
  | 51 => [.aload 0, .instanceof 265, .checkcast 393904, .iload 1, .iload 2, .iastore, .aload 0, .invokeinterface 500 0, .ireturn]
  | _ => []
theorem k_X4_readPlank : ∀ t, bok (mC 35) (mB 35) (mL 35) t (b_X4_readPlank t) = true := by
  intro t
  unfold b_X4_readPlank
  split
  all_goals first | decide +kernel | rfl
theorem e_X4_readPlank {d : Nat} {av : List AV} {σ : Mem} {K : Option AV → Mem → Prop} (hl : (entL av).length ≤ 3) (h : wp d 35 b_X4_readPlank K 400 (b_X4_readPlank 0) (ent 3 av) [] σ) : Ev (d + 1) 35 av σ K := Ev.enter (by decide) (by decide +kernel) hl (wp_ok k_X4_readPlank 400 _ 0 _ _ _ (k_X4_readPlank 0) h)
theorem r_X4_readPlank : mR 35 = (some .boolean) := by decide +kernel
def b_X4_readPerson (t : Nat) : List Instr := match t with
  | 0 => [.aload 0, .instanceof 265, .getfield 198, .sipush 6, .if_icmp .lt 18, .aload 0, .sipush 4, .invokeinterface 468 1, .ireturn]
  | 18 => [.aload 0, .invokeinterface 404 0, .sipush 0, .istore 1, .sipush 0, .istore 2, .jsr 26]
  | 26 => [.goto_w 26]
  | 68 => [.iinc 2 1, .goto 26]
  | 74 => [.aload 0, .instanceof 265, .checkcast 395984, .aload 0, .instanceof 265, .getfield 198, .iload 1, .iastore, .aload 0, .instanceof 265, .dup, .getfield 198, .sipush 1, .iadd, .putfield 198, .aload 0, .invokeinterface 500 0, .ireturn]
  | _ => []
theorem k_X4_readPerson : ∀ t, bok (mC 36) (mB 36) (mL 36) t (b_X4_readPerson t) = true := by
  intro t
  unfold b_X4_readPerson
  split
  all_goals first | decide +kernel | rfl
theorem e_X4_readPerson {d : Nat} {av : List AV} {σ : Mem} {K : Option AV → Mem → Prop} (hl : (entL av).length ≤ 3) (h : wp d 36 b_X4_readPerson K 400 (b_X4_readPerson 0) (ent 3 av) [] σ) : Ev (d + 1) 36 av σ K := Ev.enter (by decide) (by decide +kernel) hl (wp_ok k_X4_readPerson 400 _ 0 _ _ _ (k_X4_readPerson 0) h)
theorem r_X4_readPerson : mR 36 = (some .boolean) := by decide +kernel
def h_X4_readPerson_26 : List Instr := [.iload 2, .sipush 900, .if_icmp .ge 74, .aload 0, .ldc 6, .invokeinterface 452 1, .ifCond .eq 74, .aload 0, .invokeinterface 404 0, .aload 0, .sipush 0, .aload 0, .instanceof 265, .getfield 197, .sipush 1, .iadd, .invokeinterface 484 2, .istore 1, .iload 1, .sipush (-1), .if_icmp .ne 68, .sipush 0, .ireturn]
theorem l_X4_readPerson_26 {d : Nat} {ls st : List AV} {σ : Mem} {K : Option AV → Mem → Prop} (h : wp d 36 b_X4_readPerson K 400 h_X4_readPerson_26 ls st σ) : Rn (d + 1) 36 26 ls st σ K := wp_ok k_X4_readPerson 400 _ 26 _ _ _ (by decide +kernel) h
def b_X4_readPaper (t : Nat) : List Instr := match t with
  | 0 => [.aload 0, .invokeinterface 404 0, .aload 0, .sipush 0, .aload 0, .instanceof 265, .getfield 198, .sipush 1, .isub, .invokeinterface 484 2, .istore 1, .iload 1, .sipush (-1), .if_icmp .eq 33, .aload 0, .ldc 8, .invokeinterface 436 1, .ifCond .ne 35, .jsr 33]
  | 33 => [.sipush 0, .ireturn]
  | 35 => [.aload 0, .getfield 261, .sipush 2, .if_icmp .ne 57, .aload 0, .getfield 262, .iload 1, .if_icmp .ne 57, .aload 0, .sipush 3, .invokeinterface 468 1, .ireturn]
  | 57 => [.aload 0, .sipush 0, .aload 0, .instanceof 265, .getfield 198, .sipush 1, .isub, .invokeinterface 484 2, .istore 2, .iload 2, .sipush (-1), .if_icmp .eq 86, .aload 0, .ldc 9, .invokeinterface 436 1, .ifCond .ne 88, .jsr 86]
  | 86 => [.sipush 0, .ireturn]
  | 88 => [.aload 0, .sipush 1, .sipush 99, .invokeinterface 484 2, .istore 3, .iload 3, .sipush (-1), .if_icmp .ne 103, .sipush 0, .ireturn]
  | 103 => [.aload 0, .instanceof 265, .checkcast 398064, .iload 1, .sipush 6, .imul, .iload 2, .iadd, .iload 3, .iastore, .aload 0, .invokeinterface 500 0, .ireturn]
  | _ => []
theorem k_X4_readPaper : ∀ t, bok (mC 37) (mB 37) (mL 37) t (b_X4_readPaper t) = true := by
  intro t
  unfold b_X4_readPaper
  split
  all_goals first | decide +kernel | rfl
theorem e_X4_readPaper {d : Nat} {av : List AV} {σ : Mem} {K : Option AV → Mem → Prop} (hl : (entL av).length ≤ 4) (h : wp d 37 b_X4_readPaper K 400 (b_X4_readPaper 0) (ent 4 av) [] σ) : Ev (d + 1) 37 av σ K := Ev.enter (by decide) (by decide +kernel) hl (wp_ok k_X4_readPaper 400 _ 0 _ _ _ (k_X4_readPaper 0) h)
theorem r_X4_readPaper : mR 37 = (some .boolean) := by decide +kernel
def b_X4_readSum (t : Nat) : List Instr := match t with
  | 0 => [.aload 0, .iload 1, .invokeinterface 644 1, .ifCond .ne 10, .sipush 0, .ireturn]
  | 10 => [.sipush 0, .istore 2, .jsr 12]
  | 12 => [.goto_w 12]
  | 37 => [.aload 0, .sipush 43, .invokeinterface 532 1, .ifCond .eq 52, .sipush 2001, .goto 55]
  | 52 => [.sipush 2002, .jsr 55]
  | 55 => [.istore 3, .aload 0, .invokeinterface 404 0, .aload 0, .iload 1, .invokeinterface 644 1, .ifCond .ne 70, .sipush 0, .ireturn]
  | 70 => [.aload 0, .iload 3, .invokeinterface 692 1, .iinc 2 1, .goto 12]
  | 81 => [.sipush 1, .ireturn]
  | _ => []
theorem k_X4_readSum : ∀ t, bok (mC 39) (mB 39) (mL 39) t (b_X4_readSum t) = true := by
  intro t
  unfold b_X4_readSum
  split
  all_goals first | decide +kernel | rfl
theorem e_X4_readSum {d : Nat} {av : List AV} {σ : Mem} {K : Option AV → Mem → Prop} (hl : (entL av).length ≤ 4) (h : wp d 39 b_X4_readSum K 400 (b_X4_readSum 0) (ent 4 av) [] σ) : Ev (d + 1) 39 av σ K := Ev.enter (by decide) (by decide +kernel) hl (wp_ok k_X4_readSum 400 _ 0 _ _ _ (k_X4_readSum 0) h)
theorem r_X4_readSum : mR 39 = (some .boolean) := by decide +kernel
def h_X4_readSum_12 : List Instr := [.iload 2, .sipush 900, .if_icmp .ge 81, .aload 0, .sipush 43, .invokeinterface 532 1, .ifCond .ne 37, .aload 0, .sipush 45, .invokeinterface 532 1, .ifCond .eq 81, .jsr 37]
theorem l_X4_readSum_12 {d : Nat} {ls st : List AV} {σ : Mem} {K : Option AV → Mem → Prop} (h : wp d 39 b_X4_readSum K 400 h_X4_readSum_12 ls st σ) : Rn (d + 1) 39 12 ls st σ K := wp_ok k_X4_readSum 400 _ 12 _ _ _ (by decide +kernel) h
def b_X4_readTerm (t : Nat) : List Instr := match t with
  | 0 => [.aload 0, .iload 1, .invokeinterface 660 1, .ifCond .ne 10, .sipush 0, .ireturn]
  | 10 => [.sipush 0, .istore 2, .jsr 12]
  | 12 => [.goto_w 12]
  | 42 => [.aload 0, .sipush 2003, .invokeinterface 692 1, .iinc 2 1, .goto 12]
  | 55 => [.sipush 1, .ireturn]
  | _ => []
theorem k_X4_readTerm : ∀ t, bok (mC 40) (mB 40) (mL 40) t (b_X4_readTerm t) = true := by
  intro t
  unfold b_X4_readTerm
  split
  all_goals first | decide +kernel | rfl
theorem e_X4_readTerm {d : Nat} {av : List AV} {σ : Mem} {K : Option AV → Mem → Prop} (hl : (entL av).length ≤ 3) (h : wp d 40 b_X4_readTerm K 400 (b_X4_readTerm 0) (ent 3 av) [] σ) : Ev (d + 1) 40 av σ K := Ev.enter (by decide) (by decide +kernel) hl (wp_ok k_X4_readTerm 400 _ 0 _ _ _ (k_X4_readTerm 0) h)
theorem r_X4_readTerm : mR 40 = (some .boolean) := by decide +kernel
def h_X4_readTerm_12 : List Instr := [.iload 2, .sipush 900, .if_icmp .ge 55, .aload 0, .sipush 42, .invokeinterface 532 1, .ifCond .eq 55, .aload 0, .invokeinterface 404 0, .aload 0, .iload 1, .invokeinterface 660 1, .ifCond .ne 42, .sipush 0, .ireturn]
theorem l_X4_readTerm_12 {d : Nat} {ls st : List AV} {σ : Mem} {K : Option AV → Mem → Prop} (h : wp d 40 b_X4_readTerm K 400 h_X4_readTerm_12 ls st σ) : Rn (d + 1) 40 12 ls st σ K := wp_ok k_X4_readTerm 400 _ 12 _ _ _ (by decide +kernel) h
def b_X4_readAtom (t : Nat) : List Instr := match t with
  | 0 => [.aload 0, .sipush 40, .invokeinterface 532 1, .ifCond .eq 50, .iload 1, .sipush 6, .if_icmp .lt 21, .aload 0, .sipush 4, .invokeinterface 468 1, .ireturn]
  | 21 => [.aload 0, .invokeinterface 404 0, .aload 0, .iload 1, .sipush 1, .iadd, .invokeinterface 628 1, .ifCond .eq 48, .aload 0, .sipush 41, .invokeinterface 516 1, .ifCond .eq 48, .sipush 1, .goto 49]
  | 48 => [.sipush 0, .jsr 49]
  | 49 => [.ireturn]
  | 50 => [.aload 0, .getfield 261, .sipush 1, .if_icmp .ne 65, .aload 0, .invokeinterface 676 0, .goto 66]
  | 65 => [.sipush (-1), .jsr 66]
  | 66 => [.istore 2, .aload 0, .getfield 261, .sipush 2, .if_icmp .eq 86, .iload 2, .sipush (-1), .if_icmp .ne 86, .aload 0, .sipush 2, .invokeinterface 468 1, .ireturn]
  | 86 => [.aload 0, .aload 0, .getfield 261, .sipush 2, .if_icmp .ne 102, .aload 0, .getfield 262, .goto 107]
  | 102 => [.sipush 1000, .iload 2, .iadd, .jsr 107]
  | 107 => [.invokeinterface 692 1, .aload 0, .invokeinterface 404 0, .sipush 1, .ireturn]
  | _ => []
theorem k_X4_readAtom : ∀ t, bok (mC 41) (mB 41) (mL 41) t (b_X4_readAtom t) = true := by
  intro t
  unfold b_X4_readAtom
  split
  all_goals first | decide +kernel | rfl
theorem e_X4_readAtom {d : Nat} {av : List AV} {σ : Mem} {K : Option AV → Mem → Prop} (hl : (entL av).length ≤ 3) (h : wp d 41 b_X4_readAtom K 400 (b_X4_readAtom 0) (ent 3 av) [] σ) : Ev (d + 1) 41 av σ K := Ev.enter (by decide) (by decide +kernel) hl (wp_ok k_X4_readAtom 400 _ 0 _ _ _ (k_X4_readAtom 0) h)
theorem r_X4_readAtom : mR 41 = (some .boolean) := by decide +kernel
def b_X4_knownWord (t : Nat) : List Instr := match t with
  | 0 => [.aload 0, .ldc 11, .invokeinterface 452 1, .ifCond .eq 11, .sipush 0, .ireturn]
  | 11 => [.aload 0, .ldc 12, .invokeinterface 452 1, .ifCond .eq 22, .sipush 1, .ireturn]
  | 22 => [.aload 0, .ldc 13, .invokeinterface 452 1, .ifCond .eq 33, .sipush 2, .ireturn]
  | 33 => [.aload 0, .aload 0, .getfield 264, .ifCond .eq 46, .ldc 14, .goto 48]
  | 46 => [.ldc 3, .jsr 48]
  | 48 => [.invokeinterface 452 1, .ifCond .eq 68, .aload 0, .getfield 264, .ifCond .eq 65, .sipush 3, .goto 67]
  | 65 => [.sipush 6, .jsr 67]
  | 67 => [.ireturn]
  | 68 => [.aload 0, .aload 0, .getfield 264, .ifCond .eq 81, .ldc 15, .goto 83]
  | 81 => [.ldc 16, .jsr 83]
  | 83 => [.invokeinterface 452 1, .ifCond .eq 103, .aload 0, .getfield 264, .ifCond .eq 100, .sipush 4, .goto 102]
  | 100 => [.sipush 7, .jsr 102]
  | 102 => [.ireturn]
  | 103 => [.aload 0, .aload 0, .getfield 264, .ifCond .eq 116, .ldc 17, .goto 118]
  | 116 => [.ldc 18, .jsr 118]
  | 118 => [.invokeinterface 452 1, .ifCond .eq 138, .aload 0, .getfield 264, .ifCond .eq 135, .sipush 5, .goto 137]
  | 135 => [.sipush 8, .jsr 137]
  | 137 => [.ireturn]
  | 138 => [.sipush (-1), .ireturn]
  | _ => []
theorem k_X4_knownWord : ∀ t, bok (mC 42) (mB 42) (mL 42) t (b_X4_knownWord t) = true := by
  intro t
  unfold b_X4_knownWord
  split
  all_goals first | decide +kernel | rfl
theorem e_X4_knownWord {d : Nat} {av : List AV} {σ : Mem} {K : Option AV → Mem → Prop} (hl : (entL av).length ≤ 1) (h : wp d 42 b_X4_knownWord K 400 (b_X4_knownWord 0) (ent 1 av) [] σ) : Ev (d + 1) 42 av σ K := Ev.enter (by decide) (by decide +kernel) hl (wp_ok k_X4_knownWord 400 _ 0 _ _ _ (k_X4_knownWord 0) h)
theorem r_X4_knownWord : mR 42 = (some .int) := by decide +kernel
def b_X4_emit (t : Nat) : List Instr := match t with
  | 0 => [.aload 0, .getfield 263, .aload 0, .checkcast 527184, .arraylength, .if_icmp .ge 32, .aload 0, .checkcast 527184, .aload 0, .getfield 263, .iload 1, .iastore, .aload 0, .dup, .getfield 263, .sipush 1, .iadd, .putfield 263, .jsr 32]
  | 32 => [.return_]
  | _ => []
theorem k_X4_emit : ∀ t, bok (mC 43) (mB 43) (mL 43) t (b_X4_emit t) = true := by
  intro t
  unfold b_X4_emit
  split
  all_goals first | decide +kernel | rfl
theorem e_X4_emit {d : Nat} {av : List AV} {σ : Mem} {K : Option AV → Mem → Prop} (hl : (entL av).length ≤ 2) (h : wp d 43 b_X4_emit K 400 (b_X4_emit 0) (ent 2 av) [] σ) : Ev (d + 1) 43 av σ K := Ev.enter (by decide) (by decide +kernel) hl (wp_ok k_X4_emit 400 _ 0 _ _ _ (k_X4_emit 0) h)
theorem r_X4_emit : mR 43 = none := by decide +kernel
def b_X4_readTruth (t : Nat) : List Instr := match t with
  | 0 => [.aload 0, .iload 1, .invokeinterface 740 1, .ifCond .ne 10, .sipush 0, .ireturn]
  | 10 => [.sipush 0, .istore 2, .jsr 12]
  | 12 => [.goto_w 12]
  | 42 => [.aload 0, .sipush 2008, .invokeinterface 692 1, .iinc 2 1, .goto 12]
  | 55 => [.sipush 1, .ireturn]
  | _ => []
theorem k_X4_readTruth : ∀ t, bok (mC 45) (mB 45) (mL 45) t (b_X4_readTruth t) = true := by
  intro t
  unfold b_X4_readTruth
  split
  all_goals first | decide +kernel | rfl
theorem e_X4_readTruth {d : Nat} {av : List AV} {σ : Mem} {K : Option AV → Mem → Prop} (hl : (entL av).length ≤ 3) (h : wp d 45 b_X4_readTruth K 400 (b_X4_readTruth 0) (ent 3 av) [] σ) : Ev (d + 1) 45 av σ K := Ev.enter (by decide) (by decide +kernel) hl (wp_ok k_X4_readTruth 400 _ 0 _ _ _ (k_X4_readTruth 0) h)
theorem r_X4_readTruth : mR 45 = (some .boolean) := by decide +kernel
def h_X4_readTruth_12 : List Instr := [.iload 2, .sipush 900, .if_icmp .ge 55, .aload 0, .ldc 22, .invokeinterface 452 1, .ifCond .eq 55, .aload 0, .invokeinterface 404 0, .aload 0, .iload 1, .invokeinterface 740 1, .ifCond .ne 42, .sipush 0, .ireturn]
theorem l_X4_readTruth_12 {d : Nat} {ls st : List AV} {σ : Mem} {K : Option AV → Mem → Prop} (h : wp d 45 b_X4_readTruth K 400 h_X4_readTruth_12 ls st σ) : Rn (d + 1) 45 12 ls st σ K := wp_ok k_X4_readTruth 400 _ 12 _ _ _ (by decide +kernel) h
def b_X4_readBoth (t : Nat) : List Instr := match t with
  | 0 => [.aload 0, .iload 1, .invokeinterface 756 1, .ifCond .ne 10, .sipush 0, .ireturn]
  | 10 => [.sipush 0, .istore 2, .jsr 12]
  | 12 => [.goto_w 12]
  | 42 => [.aload 0, .sipush 2007, .invokeinterface 692 1, .iinc 2 1, .goto 12]
  | 55 => [.sipush 1, .ireturn]
  | _ => []
theorem k_X4_readBoth : ∀ t, bok (mC 46) (mB 46) (mL 46) t (b_X4_readBoth t) = true := by
  intro t
  unfold b_X4_readBoth
  split
  all_goals first | decide +kernel | rfl
theorem e_X4_readBoth {d : Nat} {av : List AV} {σ : Mem} {K : Option AV → Mem → Prop} (hl : (entL av).length ≤ 3) (h : wp d 46 b_X4_readBoth K 400 (b_X4_readBoth 0) (ent 3 av) [] σ) : Ev (d + 1) 46 av σ K := Ev.enter (by decide) (by decide +kernel) hl (wp_ok k_X4_readBoth 400 _ 0 _ _ _ (k_X4_readBoth 0) h)
theorem r_X4_readBoth : mR 46 = (some .boolean) := by decide +kernel
def h_X4_readBoth_12 : List Instr := [.iload 2, .sipush 900, .if_icmp .ge 55, .aload 0, .ldc 21, .invokeinterface 452 1, .ifCond .eq 55, .aload 0, .invokeinterface 404 0, .aload 0, .iload 1, .invokeinterface 756 1, .ifCond .ne 42, .sipush 0, .ireturn]
theorem l_X4_readBoth_12 {d : Nat} {ls st : List AV} {σ : Mem} {K : Option AV → Mem → Prop} (h : wp d 46 b_X4_readBoth K 400 h_X4_readBoth_12 ls st σ) : Rn (d + 1) 46 12 ls st σ K := wp_ok k_X4_readBoth 400 _ 12 _ _ _ (by decide +kernel) h
def b_X4_readUnit (t : Nat) : List Instr := match t with
  | 0 => [.aload 0, .ldc 20, .invokeinterface 452 1, .istore 2, .iload 2, .ifCond .ne 20, .aload 0, .sipush 91, .invokeinterface 532 1, .ifCond .eq 86, .jsr 20]
  | 20 => [.iload 1, .sipush 6, .if_icmp .lt 32, .aload 0, .sipush 4, .invokeinterface 468 1, .ireturn]
  | 32 => [.aload 0, .invokeinterface 404 0, .iload 2, .ifCond .ne 65, .aload 0, .iload 1, .sipush 1, .iadd, .invokeinterface 724 1, .ifCond .eq 63, .aload 0, .sipush 93, .invokeinterface 516 1, .ifCond .eq 63, .sipush 1, .goto 64]
  | 63 => [.sipush 0, .jsr 64]
  | 64 => [.ireturn]
  | 65 => [.aload 0, .iload 1, .sipush 1, .iadd, .invokeinterface 756 1, .ifCond .ne 77, .sipush 0, .ireturn]
  | 77 => [.aload 0, .sipush 2000, .invokeinterface 692 1, .sipush 1, .ireturn]
  | 86 => [.aload 0, .iload 1, .invokeinterface 628 1, .ifCond .ne 96, .sipush 0, .ireturn]
  | 96 => [.aload 0, .invokeinterface 772 0, .istore 3, .iload 3, .sipush (-1), .if_icmp .ne 112, .aload 0, .sipush 2, .invokeinterface 468 1, .ireturn]
  | 112 => [.aload 0, .invokeinterface 404 0, .aload 0, .iload 1, .invokeinterface 628 1, .ifCond .ne 126, .sipush 0, .ireturn]
  | 126 => [.aload 0, .iload 3, .invokeinterface 692 1, .sipush 1, .ireturn]
  | _ => []
theorem k_X4_readUnit : ∀ t, bok (mC 47) (mB 47) (mL 47) t (b_X4_readUnit t) = true := by
  intro t
  unfold b_X4_readUnit
  split
  all_goals first | decide +kernel | rfl
theorem e_X4_readUnit {d : Nat} {av : List AV} {σ : Mem} {K : Option AV → Mem → Prop} (hl : (entL av).length ≤ 4) (h : wp d 47 b_X4_readUnit K 400 (b_X4_readUnit 0) (ent 4 av) [] σ) : Ev (d + 1) 47 av σ K := Ev.enter (by decide) (by decide +kernel) hl (wp_ok k_X4_readUnit 400 _ 0 _ _ _ (k_X4_readUnit 0) h)
theorem r_X4_readUnit : mR 47 = (some .boolean) := by decide +kernel
def b_X4_comparison (t : Nat) : List Instr := match t with
  | 0 => [.aload 0, .sipush 61, .invokeinterface 532 1, .ifCond .eq 13, .sipush 2004, .ireturn]
  | 13 => [.aload 0, .sipush 60, .invokeinterface 532 1, .ifCond .eq 26, .sipush 2005, .ireturn]
  | 26 => [.aload 0, .sipush 62, .invokeinterface 532 1, .ifCond .eq 41, .sipush 2006, .goto 42]
  | 41 => [.sipush (-1), .jsr 42]
  | 42 => [.ireturn]
  | _ => []
theorem k_X4_comparison : ∀ t, bok (mC 48) (mB 48) (mL 48) t (b_X4_comparison t) = true := by
  intro t
  unfold b_X4_comparison
  split
  all_goals first | decide +kernel | rfl
theorem e_X4_comparison {d : Nat} {av : List AV} {σ : Mem} {K : Option AV → Mem → Prop} (hl : (entL av).length ≤ 1) (h : wp d 48 b_X4_comparison K 400 (b_X4_comparison 0) (ent 1 av) [] σ) : Ev (d + 1) 48 av σ K := Ev.enter (by decide) (by decide +kernel) hl (wp_ok k_X4_comparison 400 _ 0 _ _ _ (k_X4_comparison 0) h)
theorem r_X4_comparison : mR 48 = (some .int) := by decide +kernel
def b_X4_readSnowy (t : Nat) : List Instr := match t with
  | 0 => [.aload 0, .invokeinterface 404 0, .aload 0, .sipush 0, .sipush 10, .invokeinterface 484 2, .istore 1, .iload 1, .sipush (-1), .if_icmp .ne 19, .sipush 0, .ireturn]
  | 19 => [.aload 0, .instanceof 265, .iload 1, .putfield 199, .aload 0, .invokeinterface 500 0, .ireturn]
  | _ => []
theorem k_X4_readSnowy : ∀ t, bok (mC 49) (mB 49) (mL 49) t (b_X4_readSnowy t) = true := by
  intro t
  unfold b_X4_readSnowy
  split
  all_goals first | decide +kernel | rfl
theorem e_X4_readSnowy {d : Nat} {av : List AV} {σ : Mem} {K : Option AV → Mem → Prop} (hl : (entL av).length ≤ 2) (h : wp d 49 b_X4_readSnowy K 400 (b_X4_readSnowy 0) (ent 2 av) [] σ) : Ev (d + 1) 49 av σ K := Ev.enter (by decide) (by decide +kernel) hl (wp_ok k_X4_readSnowy 400 _ 0 _ _ _ (k_X4_readSnowy 0) h)
theorem r_X4_readSnowy : mR 49 = (some .boolean) := by decide +kernel
def b_X4_readDay (t : Nat) : List Instr := match t with
  | 0 => [.aload 0, .invokeinterface 404 0, .aload 0, .sipush 0, .sipush 999, .invokeinterface 484 2, .istore 1, .iload 1, .sipush (-1), .if_icmp .ne 20, .sipush 0, .ireturn]
  | 20 => [.aload 0, .instanceof 265, .iload 1, .putfield 200, .aload 0, .invokeinterface 500 0, .ireturn]
  | _ => []
theorem k_X4_readDay : ∀ t, bok (mC 50) (mB 50) (mL 50) t (b_X4_readDay t) = true := by
  intro t
  unfold b_X4_readDay
  split
  all_goals first | decide +kernel | rfl
theorem e_X4_readDay {d : Nat} {av : List AV} {σ : Mem} {K : Option AV → Mem → Prop} (hl : (entL av).length ≤ 2) (h : wp d 50 b_X4_readDay K 400 (b_X4_readDay 0) (ent 2 av) [] σ) : Ev (d + 1) 50 av σ K := Ev.enter (by decide) (by decide +kernel) hl (wp_ok k_X4_readDay 400 _ 0 _ _ _ (k_X4_readDay 0) h)
theorem r_X4_readDay : mR 50 = (some .boolean) := by decide +kernel
def b_X5_valueOf (t : Nat) : List Instr := match t with
  | 0 => [.sipush 0, .istore 2, .sipush 0, .istore 3, .jsr 4]
  | 4 => [.goto_w 4]
  | 70 => [.iload 4, .jsr 72]
  | 72 => [.iastore, .iinc 2 1, .goto 166]
  | 79 => [.iload 4, .sipush 2000, .if_icmp .ne 112, .iload 2, .ifCond .le 166, .aload 0, .checkcast 656240, .iload 2, .sipush 1, .isub, .sipush 1, .aload 0, .checkcast 656240, .iload 2, .sipush 1, .isub, .iaload, .isub, .iastore, .goto 166]
  | 112 => [.iload 2, .sipush 1, .if_icmp .le 166, .iinc 2 (-1), .iload 4, .aload 0, .checkcast 656240, .iload 2, .sipush 1, .isub, .iaload, .i2l, .aload 0, .checkcast 656240, .iload 2, .iaload, .i2l, .multianewarray 52 3, .lstore 6, .aload 0, .checkcast 656240, .iload 2, .sipush 1, .isub, .jsr_w (-1000000), .jsr_w 1000000, .lload 6, .fcmp .l, .fcmp .g, .l2i, .iastore, .jsr 166]
  | 166 => [.iinc 3 1, .goto 4]
  | 172 => [.aload 0, .checkcast 656240, .sipush 0, .iaload, .ireturn]
  | _ => []
theorem k_X5_valueOf : ∀ t, bok (mC 51) (mB 51) (mL 51) t (b_X5_valueOf t) = true := by
  intro t
  unfold b_X5_valueOf
  split
  all_goals first | decide +kernel | rfl
theorem e_X5_valueOf {d : Nat} {av : List AV} {σ : Mem} {K : Option AV → Mem → Prop} (hl : (entL av).length ≤ 8) (h : wp d 51 b_X5_valueOf K 400 (b_X5_valueOf 0) (ent 8 av) [] σ) : Ev (d + 1) 51 av σ K := Ev.enter (by decide) (by decide +kernel) hl (wp_ok k_X5_valueOf 400 _ 0 _ _ _ (k_X5_valueOf 0) h)
theorem r_X5_valueOf : mR 51 = (some .int) := by decide +kernel
def h_X5_valueOf_4 : List Instr := [.iload 3, .aload 1, .arraylength, .if_icmp .ge 172, .aload 1, .iload 3, .iaload, .istore 4, .iload 4, .sipush 1000, .isub, .istore 5, .iload 4, .sipush 2000, .if_icmp .ge 79, .iload 2, .aload 0, .checkcast 656240, .arraylength, .if_icmp .ge 166, .aload 0, .checkcast 656240, .iload 2, .iload 5, .ifCond .lt 70, .iload 5, .aload 0, .checkcast 658320, .arraylength, .if_icmp .ge 70, .aload 0, .checkcast 658320, .iload 5, .iaload, .goto 72]
theorem l_X5_valueOf_4 {d : Nat} {ls st : List AV} {σ : Mem} {K : Option AV → Mem → Prop} (h : wp d 51 b_X5_valueOf K 400 h_X5_valueOf_4 ls st σ) : Rn (d + 1) 51 4 ls st σ K := wp_ok k_X5_valueOf 400 _ 4 _ _ _ (by decide +kernel) h
def b_X5_joined (t : Nat) : List Instr := match t with
  | 0 => [.iload 0, .tableswitch 96 2001 2007 #[44, 48, 52, 56, 68, 80, 92]]
  | 44 => [.lload 1, .lload 3, .ladd, .lreturn]
  | 48 => [.lload 1, .lload 3, .lsub, .lreturn]
  | 52 => [.lload 1, .lload 3, .lmul, .lreturn]
  | 56 => [.lload 1, .lload 3, .lcmp, .ifCond .ne 66, .jsr_w 1, .goto 67]
  | 66 => [.jsr_w 0, .jsr 67]
  | 67 => [.lreturn]
  | 68 => [.lload 1, .lload 3, .lcmp, .ifCond .ge 78, .jsr_w 1, .goto 79]
  | 78 => [.jsr_w 0, .jsr 79]
  | 79 => [.lreturn]
  | 80 => [.lload 1, .lload 3, .lcmp, .ifCond .le 90, .jsr_w 1, .goto 91]
  | 90 => [.jsr_w 0, .jsr 91]
  | 91 => [.lreturn]
  | 92 => [.lload 1, .lload 3, .land, .lreturn]
  | 96 => [.lload 1, .lload 3, .lor, .lreturn]
  | _ => []
theorem k_X5_joined : ∀ t, bok (mC 52) (mB 52) (mL 52) t (b_X5_joined t) = true := by
  intro t
  unfold b_X5_joined
  split
  all_goals first | decide +kernel | rfl
theorem e_X5_joined {d : Nat} {av : List AV} {σ : Mem} {K : Option AV → Mem → Prop} (hl : (entL av).length ≤ 5) (h : wp d 52 b_X5_joined K 400 (b_X5_joined 0) (ent 5 av) [] σ) : Ev (d + 1) 52 av σ K := Ev.enter (by decide) (by decide +kernel) hl (wp_ok k_X5_joined 400 _ 0 _ _ _ (k_X5_joined 0) h)
theorem r_X5_joined : mR 52 = (some .long) := by decide +kernel
def b_X6_walkTray (t : Nat) : List Instr := match t with
  | 0 => [.sipush 0, .istore 2, .jsr 2]
  | 2 => [.goto_w 2]
  | 40 => [.aload 0, .aload 1, .getfield 515, .sipush 6, .dcmp .l, .invokeinterface 870 1, .ireturn]
  | _ => []
theorem k_X6_walkTray : ∀ t, bok (mC 53) (mB 53) (mL 53) t (b_X6_walkTray t) = true := by
  intro t
  unfold b_X6_walkTray
  split
  all_goals first | decide +kernel | rfl
theorem e_X6_walkTray {d : Nat} {av : List AV} {σ : Mem} {K : Option AV → Mem → Prop} (hl : (entL av).length ≤ 3) (h : wp d 53 b_X6_walkTray K 400 (b_X6_walkTray 0) (ent 3 av) [] σ) : Ev (d + 1) 53 av σ K := Ev.enter (by decide) (by decide +kernel) hl (wp_ok k_X6_walkTray 400 _ 0 _ _ _ (k_X6_walkTray 0) h)
theorem r_X6_walkTray : mR 53 = (some .int) := by decide +kernel
def h_X6_walkTray_2 : List Instr := [.iload 2, .aload 1, .getfield 515, .if_icmp .ge 40, .iload 2, .sipush 6, .if_icmp .ge 40, .aload 0, .checkcast 789424, .iload 2, .aload 1, .iload 2, .invokeinterface 1032 1, .iastore, .aload 0, .checkcast 791504, .iload 2, .iload 2, .iastore, .iinc 2 1, .goto 2]
theorem l_X6_walkTray_2 {d : Nat} {ls st : List AV} {σ : Mem} {K : Option AV → Mem → Prop} (h : wp d 53 b_X6_walkTray K 400 h_X6_walkTray_2 ls st σ) : Rn (d + 1) 53 2 ls st σ K := wp_ok k_X6_walkTray 400 _ 2 _ _ _ (by decide +kernel) h
def b_X6_walk (t : Nat) : List Instr := match t with
  | 0 => [.aload 0, .checkcast 786752, .invokeinterface 1498 0, .aload 0, .checkcast 786752, .instanceof 643, .getfield 197, .iload 1, .ifCond .le 32, .aload 0, .checkcast 791504, .iload 1, .sipush 1, .isub, .iaload, .goto 33]
  | 32 => [.sipush 0, .jsr 33]
  | 33 => [.iadd, .istore 2, .sipush 0, .istore 3, .jsr 37]
  | 37 => [.goto_w 37]
  | 53 => [.goto_w 53]
  | 99 => [.iinc 4 1, .goto 53]
  | 105 => [.aload 0, .invokeinterface 886 0, .istore 4, .iload 4, .sipush (-1), .if_icmp .eq 120, .iload 4, .ireturn]
  | 120 => [.iinc 3 1, .goto 37]
  | 126 => [.sipush (-1), .ireturn]
  | _ => []
theorem k_X6_walk : ∀ t, bok (mC 54) (mB 54) (mL 54) t (b_X6_walk t) = true := by
  intro t
  unfold b_X6_walk
  split
  all_goals first | decide +kernel | rfl
theorem e_X6_walk {d : Nat} {av : List AV} {σ : Mem} {K : Option AV → Mem → Prop} (hl : (entL av).length ≤ 5) (h : wp d 54 b_X6_walk K 400 (b_X6_walk 0) (ent 5 av) [] σ) : Ev (d + 1) 54 av σ K := Ev.enter (by decide) (by decide +kernel) hl (wp_ok k_X6_walk 400 _ 0 _ _ _ (k_X6_walk 0) h)
theorem r_X6_walk : mR 54 = (some .int) := by decide +kernel
def h_X6_walk_37 : List Instr := [.iload 3, .iload 2, .if_icmp .ge 126, .aload 0, .checkcast 795664, .sipush (-1), .multianewarray 300 2, .sipush 0, .istore 4, .jsr 53]
theorem l_X6_walk_37 {d : Nat} {ls st : List AV} {σ : Mem} {K : Option AV → Mem → Prop} (h : wp d 54 b_X6_walk K 400 h_X6_walk_37 ls st σ) : Rn (d + 1) 54 37 ls st σ K := wp_ok k_X6_walk 400 _ 37 _ _ _ (by decide +kernel) h
def h_X6_walk_53 : List Instr := [.iload 4, .iload 1, .if_icmp .ge 105, .aload 0, .checkcast 786752, .iload 3, .aload 0, .checkcast 791504, .iload 4, .iaload, .isub, .invokeinterface 1450 1, .ifCond .eq 99, .aload 0, .checkcast 795664, .iload 3, .aload 0, .checkcast 791504, .iload 4, .iaload, .isub, .aload 0, .checkcast 789424, .iload 4, .iaload, .iastore, .jsr 99]
theorem l_X6_walk_53 {d : Nat} {ls st : List AV} {σ : Mem} {K : Option AV → Mem → Prop} (h : wp d 54 b_X6_walk K 400 h_X6_walk_53 ls st σ) : Rn (d + 1) 54 53 ls st σ K := wp_ok k_X6_walk 400 _ 53 _ _ _ (by decide +kernel) h
def b_X6_firstBad (t : Nat) : List Instr := match t with
  | 0 => [.sipush 0, .istore 1, .jsr 2]
  | 2 => [.goto_w 2]
  | 39 => [.aload 0, .iload 1, .invokeinterface 902 1, .aload 0, .iload 1, .sipush 1, .isub, .invokeinterface 902 1, .aload 0, .iload 1, .sipush 1, .iadd, .invokeinterface 902 1, .iadd, .sipush 2, .idiv, .iadd, .istore 2, .iload 2, .aload 0, .checkcast 786752, .iload 1, .invokeinterface 1466 1, .if_icmp .le 77, .iload 1, .ireturn]
  | 77 => [.iinc 1 1, .goto 2]
  | 83 => [.sipush (-1), .ireturn]
  | _ => []
theorem k_X6_firstBad : ∀ t, bok (mC 55) (mB 55) (mL 55) t (b_X6_firstBad t) = true := by
  intro t
  unfold b_X6_firstBad
  split
  all_goals first | decide +kernel | rfl
theorem e_X6_firstBad {d : Nat} {av : List AV} {σ : Mem} {K : Option AV → Mem → Prop} (hl : (entL av).length ≤ 3) (h : wp d 55 b_X6_firstBad K 400 (b_X6_firstBad 0) (ent 3 av) [] σ) : Ev (d + 1) 55 av σ K := Ev.enter (by decide) (by decide +kernel) hl (wp_ok k_X6_firstBad 400 _ 0 _ _ _ (k_X6_firstBad 0) h)
theorem r_X6_firstBad : mR 55 = (some .int) := by decide +kernel
def h_X6_firstBad_2 : List Instr := [.iload 1, .aload 0, .checkcast 786752, .instanceof 643, .getfield 197, .if_icmp .ge 83, .aload 0, .checkcast 786752, .iload 1, .invokeinterface 1418 1, .ifCond .eq 39, .aload 0, .checkcast 795664, .iload 1, .iaload, .sipush (-1), .if_icmp .eq 77, .iload 1, .ireturn]
theorem l_X6_firstBad_2 {d : Nat} {ls st : List AV} {σ : Mem} {K : Option AV → Mem → Prop} (h : wp d 55 b_X6_firstBad K 400 h_X6_firstBad_2 ls st σ) : Rn (d + 1) 55 2 ls st σ K := wp_ok k_X6_firstBad 400 _ 2 _ _ _ (by decide +kernel) h
def b_X6_weightAt (t : Nat) : List Instr := match t with
  | 0 => [.aload 0, .checkcast 786752, .iload 1, .invokeinterface 1450 1, .ifCond .eq 38, .aload 0, .checkcast 795664, .iload 1, .iaload, .sipush (-1), .if_icmp .eq 38, .aload 0, .checkcast 786752, .checkcast 1316080, .aload 0, .checkcast 795664, .iload 1, .iaload, .iaload, .goto 39]
  | 38 => [.sipush 0, .jsr 39]
  | 39 => [.ireturn]
  | _ => []
theorem k_X6_weightAt : ∀ t, bok (mC 56) (mB 56) (mL 56) t (b_X6_weightAt t) = true := by
  intro t
  unfold b_X6_weightAt
  split
  all_goals first | decide +kernel | rfl
theorem e_X6_weightAt {d : Nat} {av : List AV} {σ : Mem} {K : Option AV → Mem → Prop} (hl : (entL av).length ≤ 2) (h : wp d 56 b_X6_weightAt K 400 (b_X6_weightAt 0) (ent 2 av) [] σ) : Ev (d + 1) 56 av σ K := Ev.enter (by decide) (by decide +kernel) hl (wp_ok k_X6_weightAt 400 _ 0 _ _ _ (k_X6_weightAt 0) h)
theorem r_X6_weightAt : mR 56 = (some .int) := by decide +kernel
def b_X6_search (t : Nat) : List Instr := match t with
  | 0 => [.aload 0, .sipush 0, .putfield 389, .aload 0, .checkcast 786752, .checkcast 1310960, .getfield 451, .ifCond .ne 31, .aload 0, .checkcast 786752, .invokeinterface 1498 0, .aload 0, .sipush 0, .iload 1, .invokeinterface 934 2, .jsr 31]
  | 31 => [.aload 0, .getfield 389, .ireturn]
  | _ => []
theorem k_X6_search : ∀ t, bok (mC 57) (mB 57) (mL 57) t (b_X6_search t) = true := by
  intro t
  unfold b_X6_search
  split
  all_goals first | decide +kernel | rfl
theorem e_X6_search {d : Nat} {av : List AV} {σ : Mem} {K : Option AV → Mem → Prop} (hl : (entL av).length ≤ 2) (h : wp d 57 b_X6_search K 400 (b_X6_search 0) (ent 2 av) [] σ) : Ev (d + 1) 57 av σ K := Ev.enter (by decide) (by decide +kernel) hl (wp_ok k_X6_search 400 _ 0 _ _ _ (k_X6_search 0) h)
theorem r_X6_search : mR 57 = (some .int) := by decide +kernel
def b_X6_fill (t : Nat) : List Instr := match t with
  | 0 => [.iload 1, .ifCond .le 51, .iload 2, .ifCond .ne 51, .aload 0, .iload 1, .sipush 1, .isub, .iload 1, .invokeinterface 950 2, .ifCond .eq 51, .aload 0, .getfield 389, .ifCond .ne 41, .aload 0, .checkcast 789424, .sipush 0, .aload 0, .checkcast 793584, .sipush 0, .sipush 6, .monitorenter, .jsr 41]
  | 41 => [.aload 0, .dup, .getfield 389, .sipush 1, .iadd, .putfield 389, .jsr 51]
  | 51 => [.sipush 0, .istore 3, .jsr 53]
  | 53 => [.goto_w 53]
  | 105 => [.aload 0, .iload 1, .sipush 1, .iadd, .iload 2, .sipush 1, .iload 3, .ishl, .sipush (-1), .ixor, .iand, .invokeinterface 934 2, .jsr 119]
  | 119 => [.iinc 3 1, .goto 53]
  | 125 => [.return_]
  | _ => []
theorem k_X6_fill : ∀ t, bok (mC 58) (mB 58) (mL 58) t (b_X6_fill t) = true := by
  intro t
  unfold b_X6_fill
  split
  all_goals first | decide +kernel | rfl
theorem e_X6_fill {d : Nat} {av : List AV} {σ : Mem} {K : Option AV → Mem → Prop} (hl : (entL av).length ≤ 4) (h : wp d 58 b_X6_fill K 400 (b_X6_fill 0) (ent 4 av) [] σ) : Ev (d + 1) 58 av σ K := Ev.enter (by decide) (by decide +kernel) hl (wp_ok k_X6_fill 400 _ 0 _ _ _ (k_X6_fill 0) h)
theorem r_X6_fill : mR 58 = none := by decide +kernel
def h_X6_fill_53 : List Instr := [.iload 3, .aload 0, .checkcast 786752, .instanceof 643, .getfield 198, .if_icmp .ge 125, .iload 1, .sipush 6, .if_icmp .ge 125, .iload 2, .iload 3, .ishr, .sipush 1, .iand, .ifCond .eq 119, .aload 0, .checkcast 789424, .iload 1, .iload 3, .iastore, .iload 1, .ifCond .eq 105, .aload 0, .iload 1, .sipush 1, .isub, .iload 1, .sipush 1, .iadd, .invokeinterface 950 2, .ifCond .eq 119, .jsr 105]
theorem l_X6_fill_53 {d : Nat} {ls st : List AV} {σ : Mem} {K : Option AV → Mem → Prop} (h : wp d 58 b_X6_fill K 400 h_X6_fill_53 ls st σ) : Rn (d + 1) 58 53 ls st σ K := wp_ok k_X6_fill 400 _ 53 _ _ _ (by decide +kernel) h
def b_X6_isBorne (t : Nat) : List Instr := match t with
  | 0 => [.aload 0, .checkcast 786752, .instanceof 643, .getfield 197, .istore 3, .aload 0, .checkcast 786752, .checkcast 1316080, .aload 0, .checkcast 789424, .iload 1, .iaload, .iaload, .istore 4, .iload 1, .ifCond .le 50, .aload 0, .checkcast 786752, .checkcast 1316080, .aload 0, .checkcast 789424, .iload 1, .sipush 1, .isub, .iaload, .iaload, .goto 51]
  | 50 => [.sipush 0, .jsr 51]
  | 51 => [.istore 5, .iload 1, .sipush 1, .iadd, .iload 2, .if_icmp .ge 79, .aload 0, .checkcast 786752, .checkcast 1316080, .aload 0, .checkcast 789424, .iload 1, .sipush 1, .iadd, .iaload, .iaload, .goto 80]
  | 79 => [.sipush 0, .jsr 80]
  | 80 => [.istore 6, .sipush 0, .istore 7, .jsr 85]
  | 85 => [.goto_w 85]
  | 104 => [.sipush 0, .jsr 105]
  | 105 => [.iload 7, .ifCond .le 115, .iload 6, .goto 116]
  | 115 => [.sipush 0, .jsr 116]
  | 116 => [.iadd, .istore 8, .iload 4, .iload 8, .sipush 2, .idiv, .iadd, .aload 0, .checkcast 786752, .iload 7, .invokeinterface 1466 1, .if_icmp .le 140, .sipush 0, .ireturn]
  | 140 => [.iinc 7 1, .goto 85]
  | 146 => [.sipush 1, .ireturn]
  | _ => []
theorem k_X6_isBorne : ∀ t, bok (mC 59) (mB 59) (mL 59) t (b_X6_isBorne t) = true := by
  intro t
  unfold b_X6_isBorne
  split
  all_goals first | decide +kernel | rfl
theorem e_X6_isBorne {d : Nat} {av : List AV} {σ : Mem} {K : Option AV → Mem → Prop} (hl : (entL av).length ≤ 9) (h : wp d 59 b_X6_isBorne K 400 (b_X6_isBorne 0) (ent 9 av) [] σ) : Ev (d + 1) 59 av σ K := Ev.enter (by decide) (by decide +kernel) hl (wp_ok k_X6_isBorne 400 _ 0 _ _ _ (k_X6_isBorne 0) h)
theorem r_X6_isBorne : mR 59 = (some .boolean) := by decide +kernel
def h_X6_isBorne_85 : List Instr := [.iload 7, .iload 3, .if_icmp .ge 146, .iload 7, .sipush 1, .iadd, .iload 3, .if_icmp .ge 104, .iload 5, .goto 105]
theorem l_X6_isBorne_85 {d : Nat} {ls st : List AV} {σ : Mem} {K : Option AV → Mem → Prop} (h : wp d 59 b_X6_isBorne K 400 h_X6_isBorne_85 ls st σ) : Rn (d + 1) 59 85 ls st σ K := wp_ok k_X6_isBorne 400 _ 85 _ _ _ (by decide +kernel) h
def b_X6_walkTwo (t : Nat) : List Instr := match t with
  | 0 => [.aload 0, .checkcast 789424, .sipush 0, .iload 1, .iastore, .aload 0, .checkcast 791504, .sipush 0, .sipush 0, .iastore, .aload 0, .checkcast 789424, .sipush 1, .iload 2, .iastore, .aload 0, .checkcast 791504, .sipush 1, .iload 3, .sipush 1, .iadd, .iastore, .aload 0, .sipush 2, .invokeinterface 870 1, .ireturn]
  | _ => []
theorem k_X6_walkTwo : ∀ t, bok (mC 60) (mB 60) (mL 60) t (b_X6_walkTwo t) = true := by
  intro t
  unfold b_X6_walkTwo
  split
  all_goals first | decide +kernel | rfl
theorem e_X6_walkTwo {d : Nat} {av : List AV} {σ : Mem} {K : Option AV → Mem → Prop} (hl : (entL av).length ≤ 4) (h : wp d 60 b_X6_walkTwo K 400 (b_X6_walkTwo 0) (ent 4 av) [] σ) : Ev (d + 1) 60 av σ K := Ev.enter (by decide) (by decide +kernel) hl (wp_ok k_X6_walkTwo 400 _ 0 _ _ _ (k_X6_walkTwo 0) h)
theorem r_X6_walkTwo : mR 60 = (some .int) := by decide +kernel
def b_X7_begin (t : Nat) : List Instr := match t with
  | 0 => [.aload 1, .checkcast 395984, .sipush 0, .aload 0, .checkcast 918576, .sipush 0, .sipush 6, .monitorenter, .aload 1, .checkcast 398064, .sipush 0, .aload 0, .checkcast 920656, .sipush 0, .sipush 36, .monitorenter, .aload 0, .checkcast 922736, .sipush 0, .multianewarray 300 2, .aload 0, .sipush 0, .putfield 451, .aload 0, .aload 1, .getfield 200, .putfield 452, .aload 0, .sipush 0, .putfield 453, .aload 0, .sipush 0, .putfield 454, .return_]
  | _ => []
theorem k_X7_begin : ∀ t, bok (mC 61) (mB 61) (mL 61) t (b_X7_begin t) = true := by
  intro t
  unfold b_X7_begin
  split
  all_goals first | decide +kernel | rfl
theorem e_X7_begin {d : Nat} {av : List AV} {σ : Mem} {K : Option AV → Mem → Prop} (hl : (entL av).length ≤ 2) (h : wp d 61 b_X7_begin K 400 (b_X7_begin 0) (ent 2 av) [] σ) : Ev (d + 1) 61 av σ K := Ev.enter (by decide) (by decide +kernel) hl (wp_ok k_X7_begin 400 _ 0 _ _ _ (k_X7_begin 0) h)
theorem r_X7_begin : mR 61 = none := by decide +kernel
def b_X7_take (t : Nat) : List Instr := match t with
  | 0 => [.aload 1, .checkcast 918576, .sipush 0, .aload 0, .checkcast 918576, .sipush 0, .sipush 6, .monitorenter, .aload 1, .checkcast 920656, .sipush 0, .aload 0, .checkcast 920656, .sipush 0, .sipush 36, .monitorenter, .aload 1, .checkcast 922736, .sipush 0, .aload 0, .checkcast 922736, .sipush 0, .sipush 8, .monitorenter, .aload 0, .aload 1, .getfield 451, .putfield 451, .aload 0, .aload 1, .getfield 452, .putfield 452, .aload 0, .aload 1, .getfield 453, .putfield 453, .aload 0, .aload 1, .getfield 454, .putfield 454, .return_]
  | _ => []
theorem k_X7_take : ∀ t, bok (mC 62) (mB 62) (mL 62) t (b_X7_take t) = true := by
  intro t
  unfold b_X7_take
  split
  all_goals first | decide +kernel | rfl
theorem e_X7_take {d : Nat} {av : List AV} {σ : Mem} {K : Option AV → Mem → Prop} (hl : (entL av).length ≤ 2) (h : wp d 62 b_X7_take K 400 (b_X7_take 0) (ent 2 av) [] σ) : Ev (d + 1) 62 av σ K := Ev.enter (by decide) (by decide +kernel) hl (wp_ok k_X7_take 400 _ 0 _ _ _ (k_X7_take 0) h)
theorem r_X7_take : mR 62 = none := by decide +kernel
def b_X8_holdsPeople (t : Nat) : List Instr := match t with
  | 0 => [.sipush 0, .istore 2, .sipush 0, .istore 3, .jsr 4]
  | 4 => [.goto_w 4]
  | 49 => [.sipush 0, .ireturn]
  | 51 => [.iload 2, .sipush 1, .aload 0, .checkcast 1049744, .iload 3, .laload, .l2i, .ishl, .ior, .istore 2, .iinc 3 1, .goto 4]
  | 69 => [.sipush 1, .ireturn]
  | _ => []
theorem k_X8_holdsPeople : ∀ t, bok (mC 63) (mB 63) (mL 63) t (b_X8_holdsPeople t) = true := by
  intro t
  unfold b_X8_holdsPeople
  split
  all_goals first | decide +kernel | rfl
theorem e_X8_holdsPeople {d : Nat} {av : List AV} {σ : Mem} {K : Option AV → Mem → Prop} (hl : (entL av).length ≤ 4) (h : wp d 63 b_X8_holdsPeople K 400 (b_X8_holdsPeople 0) (ent 4 av) [] σ) : Ev (d + 1) 63 av σ K := Ev.enter (by decide) (by decide +kernel) hl (wp_ok k_X8_holdsPeople 400 _ 0 _ _ _ (k_X8_holdsPeople 0) h)
theorem r_X8_holdsPeople : mR 63 = (some .boolean) := by decide +kernel
def h_X8_holdsPeople_4 : List Instr := [.iload 3, .aload 0, .getfield 515, .if_icmp .ge 69, .aload 0, .checkcast 1049744, .iload 3, .laload, .jsr_w 0, .lcmp, .ifCond .lt 49, .aload 0, .checkcast 1049744, .iload 3, .laload, .iload 1, .i2l, .lcmp, .ifCond .ge 49, .iload 2, .aload 0, .checkcast 1049744, .iload 3, .laload, .l2i, .ishr, .sipush 1, .iand, .ifCond .eq 51, .jsr 49]
theorem l_X8_holdsPeople_4 {d : Nat} {ls st : List AV} {σ : Mem} {K : Option AV → Mem → Prop} (h : wp d 63 b_X8_holdsPeople K 400 h_X8_holdsPeople_4 ls st σ) : Rn (d + 1) 63 4 ls st σ K := wp_ok k_X8_holdsPeople 400 _ 4 _ _ _ (by decide +kernel) h
def b_X8_personAt (t : Nat) : List Instr := match t with
  | 0 => [.iload 1, .aload 0, .getfield 515, .if_icmp .ge 17, .aload 0, .checkcast 1049744, .iload 1, .laload, .goto 23]
  | 17 => [.aload 0, .checkcast 1049744, .sipush 0, .laload, .jsr 23]
  | 23 => [.l2i, .ireturn]
  | _ => []
theorem k_X8_personAt : ∀ t, bok (mC 64) (mB 64) (mL 64) t (b_X8_personAt t) = true := by
  intro t
  unfold b_X8_personAt
  split
  all_goals first | decide +kernel | rfl
theorem e_X8_personAt {d : Nat} {av : List AV} {σ : Mem} {K : Option AV → Mem → Prop} (hl : (entL av).length ≤ 2) (h : wp d 64 b_X8_personAt K 400 (b_X8_personAt 0) (ent 2 av) [] σ) : Ev (d + 1) 64 av σ K := Ev.enter (by decide) (by decide +kernel) hl (wp_ok k_X8_personAt 400 _ 0 _ _ _ (k_X8_personAt 0) h)
theorem r_X8_personAt : mR 64 = (some .int) := by decide +kernel
def b_X8_make (t : Nat) : List Instr := match t with
  | 0 => [.aload 0, .checkcast 1049744, .jsr_w 0, .multianewarray 302 2, .aload 0, .sipush 0, .putstatic 513, .aload 0, .iload 1, .putfield 514, .aload 0, .iload 2, .putfield 515, .return_]
  | _ => []
theorem k_X8_make : ∀ t, bok (mC 65) (mB 65) (mL 65) t (b_X8_make t) = true := by
  intro t
  unfold b_X8_make
  split
  all_goals first | decide +kernel | rfl
theorem e_X8_make {d : Nat} {av : List AV} {σ : Mem} {K : Option AV → Mem → Prop} (hl : (entL av).length ≤ 3) (h : wp d 65 b_X8_make K 400 (b_X8_make 0) (ent 3 av) [] σ) : Ev (d + 1) 65 av σ K := Ev.enter (by decide) (by decide +kernel) hl (wp_ok k_X8_make 400 _ 0 _ _ _ (k_X8_make 0) h)
theorem r_X8_make : mR 65 = none := by decide +kernel
def b_X8_put (t : Nat) : List Instr := match t with
  | 0 => [.iload 1, .ifCond .lt 30, .iload 1, .aload 0, .getfield 515, .if_icmp .ge 30, .aload 0, .checkcast 1049744, .iload 1, .aload 0, .lload 2, .invokeinterface 1080 1, .lastore, .aload 0, .checkcast 1049744, .iload 1, .laload, .lreturn]
  | 30 => [.jsr_w (-7), .lreturn]
  | _ => []
theorem k_X8_put : ∀ t, bok (mC 66) (mB 66) (mL 66) t (b_X8_put t) = true := by
  intro t
  unfold b_X8_put
  split
  all_goals first | decide +kernel | rfl
theorem e_X8_put {d : Nat} {av : List AV} {σ : Mem} {K : Option AV → Mem → Prop} (hl : (entL av).length ≤ 4) (h : wp d 66 b_X8_put K 400 (b_X8_put 0) (ent 4 av) [] σ) : Ev (d + 1) 66 av σ K := Ev.enter (by decide) (by decide +kernel) hl (wp_ok k_X8_put 400 _ 0 _ _ _ (k_X8_put 0) h)
theorem r_X8_put : mR 66 = (some .long) := by decide +kernel
def b_X8_cut (t : Nat) : List Instr := match t with
  | 0 => [.aload 0, .getfield 514, .tableswitch 46 0 2 #[32, 37, 42]]
  | 32 => [.lload 1, .l2i, .i2b, .i2l, .lreturn]
  | 37 => [.lload 1, .l2i, .i2s, .i2l, .lreturn]
  | 42 => [.lload 1, .l2i, .ldc2_w 0, .lreturn]
  | 46 => [.lload 1, .lreturn]
  | _ => []
theorem k_X8_cut : ∀ t, bok (mC 67) (mB 67) (mL 67) t (b_X8_cut t) = true := by
  intro t
  unfold b_X8_cut
  split
  all_goals first | decide +kernel | rfl
theorem e_X8_cut {d : Nat} {av : List AV} {σ : Mem} {K : Option AV → Mem → Prop} (hl : (entL av).length ≤ 3) (h : wp d 67 b_X8_cut K 400 (b_X8_cut 0) (ent 3 av) [] σ) : Ev (d + 1) 67 av σ K := Ev.enter (by decide) (by decide +kernel) hl (wp_ok k_X8_cut 400 _ 0 _ _ _ (k_X8_cut 0) h)
theorem r_X8_cut : mR 67 = (some .long) := by decide +kernel
def b_X9_fewestTorn (t : Nat) : List Instr := match t with
  | 0 => [.sipush (-1), .istore 2, .sipush 0, .istore 3, .jsr 4]
  | 4 => [.goto_w 4]
  | 36 => [.sipush 1, .goto 41]
  | 40 => [.sipush 0, .jsr 41]
  | 41 => [.istore 4, .iload 4, .ifCond .eq 59, .aload 0, .iload 1, .iload 3, .invokeinterface 1113 2, .ifCond .eq 59, .iload 3, .istore 2, .jsr 59]
  | 59 => [.iinc 3 1, .goto 4]
  | 65 => [.iload 2, .ireturn]
  | _ => []
theorem k_X9_fewestTorn : ∀ t, bok (mC 68) (mB 68) (mL 68) t (b_X9_fewestTorn t) = true := by
  intro t
  unfold b_X9_fewestTorn
  split
  all_goals first | decide +kernel | rfl
theorem e_X9_fewestTorn {d : Nat} {av : List AV} {σ : Mem} {K : Option AV → Mem → Prop} (hl : (entL av).length ≤ 5) (h : wp d 68 b_X9_fewestTorn K 400 (b_X9_fewestTorn 0) (ent 5 av) [] σ) : Ev (d + 1) 68 av σ K := Ev.enter (by decide) (by decide +kernel) hl (wp_ok k_X9_fewestTorn 400 _ 0 _ _ _ (k_X9_fewestTorn 0) h)
theorem r_X9_fewestTorn : mR 68 = (some .int) := by decide +kernel
def h_X9_fewestTorn_4 : List Instr := [.iload 3, .sipush 1, .aload 0, .checkcast 1179968, .instanceof 643, .getfield 198, .ishl, .if_icmp .ge 65, .iload 2, .sipush (-1), .if_icmp .eq 36, .iload 3, .multianewarray 301 1, .iload 2, .multianewarray 301 1, .if_icmp .ge 40, .jsr 36]
theorem l_X9_fewestTorn_4 {d : Nat} {ls st : List AV} {σ : Mem} {K : Option AV → Mem → Prop} (h : wp d 68 b_X9_fewestTorn K 400 h_X9_fewestTorn_4 ls st σ) : Rn (d + 1) 68 4 ls st σ K := wp_ok k_X9_fewestTorn 400 _ 4 _ _ _ (by decide +kernel) h
def b_X9_getsOverWithout (t : Nat) : List Instr := match t with
  | 0 => [.aload 0, .checkcast 1182017, .aload 0, .checkcast 1179968, .invokeinterface 1562 1, .sipush 0, .istore 3, .jsr 13]
  | 13 => [.goto_w 13]
  | 45 => [.iinc 3 1, .goto 13]
  | 51 => [.aload 0, .checkcast 1182017, .iload 1, .invokeinterface 1626 1, .sipush (-1), .if_icmp .ne 67, .sipush 1, .goto 68]
  | 67 => [.sipush 0, .jsr 68]
  | 68 => [.ireturn]
  | _ => []
theorem k_X9_getsOverWithout : ∀ t, bok (mC 69) (mB 69) (mL 69) t (b_X9_getsOverWithout t) = true := by
  intro t
  unfold b_X9_getsOverWithout
  split
  all_goals first | decide +kernel | rfl
theorem e_X9_getsOverWithout {d : Nat} {av : List AV} {σ : Mem} {K : Option AV → Mem → Prop} (hl : (entL av).length ≤ 4) (h : wp d 69 b_X9_getsOverWithout K 400 (b_X9_getsOverWithout 0) (ent 4 av) [] σ) : Ev (d + 1) 69 av σ K := Ev.enter (by decide) (by decide +kernel) hl (wp_ok k_X9_getsOverWithout 400 _ 0 _ _ _ (k_X9_getsOverWithout 0) h)
theorem r_X9_getsOverWithout : mR 69 = (some .boolean) := by decide +kernel
def h_X9_getsOverWithout_13 : List Instr := [.iload 3, .aload 0, .checkcast 1179968, .instanceof 643, .getfield 198, .if_icmp .ge 51, .iload 2, .iload 3, .ishr, .sipush 1, .iand, .ifCond .eq 45, .aload 0, .checkcast 1182017, .iload 1, .iload 3, .sipush 0, .invokeinterface 1546 3, .jsr 45]
theorem l_X9_getsOverWithout_13 {d : Nat} {ls st : List AV} {σ : Mem} {K : Option AV → Mem → Prop} (h : wp d 69 b_X9_getsOverWithout K 400 h_X9_getsOverWithout_13 ls st σ) : Rn (d + 1) 69 13 ls st σ K := wp_ok k_X9_getsOverWithout 400 _ 13 _ _ _ (by decide +kernel) h
def b_X9_bestForgiven (t : Nat) : List Instr := match t with
  | 0 => [.aload 0, .checkcast 1179968, .invokeinterface 1642 0, .multianewarray 301 1, .istore 1, .sipush (-1), .istore 2, .sipush 0, .istore 3, .jsr 15]
  | 15 => [.goto_w 15]
  | 100 => [.iinc 3 1, .goto 15]
  | 106 => [.iload 2, .ireturn]
  | _ => []
theorem k_X9_bestForgiven : ∀ t, bok (mC 70) (mB 70) (mL 70) t (b_X9_bestForgiven t) = true := by
  intro t
  unfold b_X9_bestForgiven
  split
  all_goals first | decide +kernel | rfl
theorem e_X9_bestForgiven {d : Nat} {av : List AV} {σ : Mem} {K : Option AV → Mem → Prop} (hl : (entL av).length ≤ 7) (h : wp d 70 b_X9_bestForgiven K 400 (b_X9_bestForgiven 0) (ent 7 av) [] σ) : Ev (d + 1) 70 av σ K := Ev.enter (by decide) (by decide +kernel) hl (wp_ok k_X9_bestForgiven 400 _ 0 _ _ _ (k_X9_bestForgiven 0) h)
theorem r_X9_bestForgiven : mR 70 = (some .int) := by decide +kernel
def h_X9_bestForgiven_15 : List Instr := [.iload 3, .sipush 36, .if_icmp .ge 106, .iload 3, .sipush 6, .idiv, .istore 4, .iload 3, .sipush 6, .irem, .istore 5, .aload 0, .checkcast 1179968, .iload 4, .iload 5, .invokeinterface 1338 2, .ifCond .le 100, .aload 0, .checkcast 1182017, .aload 0, .checkcast 1179968, .invokeinterface 1562 1, .aload 0, .checkcast 1182017, .iload 4, .iload 5, .sipush 0, .invokeinterface 1546 3, .aload 0, .checkcast 1182017, .invokeinterface 1642 0, .multianewarray 301 1, .istore 6, .iload 6, .iload 1, .if_icmp .le 100, .iload 6, .istore 1, .sipush 10, .iload 4, .imul, .iload 5, .iadd, .istore 2, .jsr 100]
theorem l_X9_bestForgiven_15 {d : Nat} {ls st : List AV} {σ : Mem} {K : Option AV → Mem → Prop} (h : wp d 70 b_X9_bestForgiven K 400 h_X9_bestForgiven_15 ls st σ) : Rn (d + 1) 70 15 ls st σ K := wp_ok k_X9_bestForgiven 400 _ 15 _ _ _ (by decide +kernel) h
def b_X9_findTorn (t : Nat) : List Instr := match t with
  | 0 => [.aload 0, .sipush 0, .putfield 580, .sipush 0, .istore 2, .jsr 7]
  | 7 => [.goto_w 7]
  | 133 => [.iinc 2 1, .goto 7]
  | 139 => [.aload 0, .getfield 580, .ireturn]
  | _ => []
theorem k_X9_findTorn : ∀ t, bok (mC 71) (mB 71) (mL 71) t (b_X9_findTorn t) = true := by
  intro t
  unfold b_X9_findTorn
  split
  all_goals first | decide +kernel | rfl
theorem e_X9_findTorn {d : Nat} {av : List AV} {σ : Mem} {K : Option AV → Mem → Prop} (hl : (entL av).length ≤ 5) (h : wp d 71 b_X9_findTorn K 400 (b_X9_findTorn 0) (ent 5 av) [] σ) : Ev (d + 1) 71 av σ K := Ev.enter (by decide) (by decide +kernel) hl (wp_ok k_X9_findTorn 400 _ 0 _ _ _ (k_X9_findTorn 0) h)
theorem r_X9_findTorn : mR 71 = (some .int) := by decide +kernel
def h_X9_findTorn_7 : List Instr := [.iload 2, .sipush 36, .if_icmp .ge 139, .iload 2, .sipush 6, .idiv, .istore 3, .iload 2, .sipush 6, .irem, .istore 4, .aload 0, .checkcast 1179968, .iload 3, .iload 4, .invokeinterface 1338 2, .ifCond .le 133, .aload 0, .getfield 580, .sipush 30, .if_icmp .ge 133, .aload 0, .checkcast 1182017, .aload 0, .checkcast 1179968, .invokeinterface 1562 1, .aload 0, .checkcast 1182017, .iload 3, .iload 4, .sipush 0, .invokeinterface 1546 3, .aload 0, .checkcast 1182017, .invokeinterface 1498 0, .aload 0, .aload 1, .invokeinterface 1161 1, .ifCond .eq 133, .aload 0, .checkcast 1184944, .aload 0, .getfield 580, .sipush 10, .iload 3, .imul, .iload 4, .iadd, .iastore, .aload 0, .checkcast 1182017, .checkcast 1316080, .sipush 0, .aload 0, .checkcast 1187024, .aload 0, .getfield 580, .sipush 6, .imul, .sipush 6, .monitorenter, .aload 0, .dup, .getfield 580, .sipush 1, .iadd, .putfield 580, .jsr 133]
theorem l_X9_findTorn_7 {d : Nat} {ls st : List AV} {σ : Mem} {K : Option AV → Mem → Prop} (h : wp d 71 b_X9_findTorn K 400 h_X9_findTorn_7 ls st σ) : Rn (d + 1) 71 7 ls st σ K := wp_ok k_X9_findTorn 400 _ 7 _ _ _ (by decide +kernel) h
def b_X9_looksLike (t : Nat) : List Instr := match t with
  | 0 => [.sipush 0, .istore 2, .jsr 2]
  | 2 => [.goto_w 2]
  | 59 => [.iinc 2 1, .goto 2]
  | 65 => [.sipush 1, .ireturn]
  | _ => []
theorem k_X9_looksLike : ∀ t, bok (mC 72) (mB 72) (mL 72) t (b_X9_looksLike t) = true := by
  intro t
  unfold b_X9_looksLike
  split
  all_goals first | decide +kernel | rfl
theorem e_X9_looksLike {d : Nat} {av : List AV} {σ : Mem} {K : Option AV → Mem → Prop} (hl : (entL av).length ≤ 3) (h : wp d 72 b_X9_looksLike K 400 (b_X9_looksLike 0) (ent 3 av) [] σ) : Ev (d + 1) 72 av σ K := Ev.enter (by decide) (by decide +kernel) hl (wp_ok k_X9_looksLike 400 _ 0 _ _ _ (k_X9_looksLike 0) h)
theorem r_X9_looksLike : mR 72 = (some .boolean) := by decide +kernel
def h_X9_looksLike_2 : List Instr := [.iload 2, .aload 0, .checkcast 1182017, .instanceof 643, .getfield 198, .if_icmp .ge 65, .iload 2, .aload 1, .getfield 515, .if_icmp .ge 65, .aload 1, .checkcast 1049744, .iload 2, .laload, .jsr_w (-1), .lcmp, .ifCond .eq 59, .aload 1, .checkcast 1049744, .iload 2, .laload, .aload 0, .checkcast 1182017, .checkcast 1316080, .iload 2, .iaload, .i2l, .lcmp, .ifCond .eq 59, .sipush 0, .ireturn]
theorem l_X9_looksLike_2 {d : Nat} {ls st : List AV} {σ : Mem} {K : Option AV → Mem → Prop} (h : wp d 72 b_X9_looksLike K 400 h_X9_looksLike_2 ls st σ) : Rn (d + 1) 72 2 ls st σ K := wp_ok k_X9_looksLike 400 _ 2 _ _ _ (by decide +kernel) h
def b_X9_tellsMost (t : Nat) : List Instr := match t with
  | 0 => [.sipush (-1), .istore 1, .sipush 0, .istore 2, .sipush 0, .istore 3, .jsr 6]
  | 6 => [.goto_w 6]
  | 38 => [.iload 3, .istore 1, .iload 4, .istore 2, .jsr 43]
  | 43 => [.iinc 3 1, .goto 6]
  | 49 => [.iload 1, .ireturn]
  | _ => []
theorem k_X9_tellsMost : ∀ t, bok (mC 73) (mB 73) (mL 73) t (b_X9_tellsMost t) = true := by
  intro t
  unfold b_X9_tellsMost
  split
  all_goals first | decide +kernel | rfl
theorem e_X9_tellsMost {d : Nat} {av : List AV} {σ : Mem} {K : Option AV → Mem → Prop} (hl : (entL av).length ≤ 5) (h : wp d 73 b_X9_tellsMost K 400 (b_X9_tellsMost 0) (ent 5 av) [] σ) : Ev (d + 1) 73 av σ K := Ev.enter (by decide) (by decide +kernel) hl (wp_ok k_X9_tellsMost 400 _ 0 _ _ _ (k_X9_tellsMost 0) h)
theorem r_X9_tellsMost : mR 73 = (some .int) := by decide +kernel
def h_X9_tellsMost_6 : List Instr := [.iload 3, .aload 0, .checkcast 1179968, .instanceof 643, .getfield 198, .if_icmp .ge 49, .aload 0, .iload 3, .invokeinterface 1193 1, .istore 4, .iload 1, .sipush (-1), .if_icmp .eq 38, .iload 4, .iload 2, .if_icmp .ge 43, .jsr 38]
theorem l_X9_tellsMost_6 {d : Nat} {ls st : List AV} {σ : Mem} {K : Option AV → Mem → Prop} (h : wp d 73 b_X9_tellsMost K 400 h_X9_tellsMost_6 ls st σ) : Rn (d + 1) 73 6 ls st σ K := wp_ok k_X9_tellsMost 400 _ 6 _ _ _ (by decide +kernel) h
def b_X9_mostAlike (t : Nat) : List Instr := match t with
  | 0 => [.sipush 0, .istore 2, .sipush 0, .istore 3, .jsr 4]
  | 4 => [.goto_w 4]
  | 18 => [.goto_w 18]
  | 56 => [.iinc 5 1, .goto 18]
  | 62 => [.iload 2, .iload 4, .dcmp .g, .istore 2, .iinc 3 1, .goto 4]
  | 75 => [.iload 2, .ireturn]
  | _ => []
theorem k_X9_mostAlike : ∀ t, bok (mC 74) (mB 74) (mL 74) t (b_X9_mostAlike t) = true := by
  intro t
  unfold b_X9_mostAlike
  split
  all_goals first | decide +kernel | rfl
theorem e_X9_mostAlike {d : Nat} {av : List AV} {σ : Mem} {K : Option AV → Mem → Prop} (hl : (entL av).length ≤ 6) (h : wp d 74 b_X9_mostAlike K 400 (b_X9_mostAlike 0) (ent 6 av) [] σ) : Ev (d + 1) 74 av σ K := Ev.enter (by decide) (by decide +kernel) hl (wp_ok k_X9_mostAlike 400 _ 0 _ _ _ (k_X9_mostAlike 0) h)
theorem r_X9_mostAlike : mR 74 = (some .int) := by decide +kernel
def h_X9_mostAlike_4 : List Instr := [.iload 3, .aload 0, .getfield 580, .if_icmp .ge 75, .sipush 0, .istore 4, .sipush 0, .istore 5, .jsr 18]
theorem l_X9_mostAlike_4 {d : Nat} {ls st : List AV} {σ : Mem} {K : Option AV → Mem → Prop} (h : wp d 74 b_X9_mostAlike K 400 h_X9_mostAlike_4 ls st σ) : Rn (d + 1) 74 4 ls st σ K := wp_ok k_X9_mostAlike 400 _ 4 _ _ _ (by decide +kernel) h
def h_X9_mostAlike_18 : List Instr := [.iload 5, .aload 0, .getfield 580, .if_icmp .ge 62, .aload 0, .checkcast 1187024, .iload 3, .sipush 6, .imul, .iload 1, .iadd, .iaload, .aload 0, .checkcast 1187024, .iload 5, .sipush 6, .imul, .iload 1, .iadd, .iaload, .if_icmp .ne 56, .iinc 4 1, .jsr 56]
theorem l_X9_mostAlike_18 {d : Nat} {ls st : List AV} {σ : Mem} {K : Option AV → Mem → Prop} (h : wp d 74 b_X9_mostAlike K 400 h_X9_mostAlike_18 ls st σ) : Rn (d + 1) 74 18 ls st σ K := wp_ok k_X9_mostAlike 400 _ 18 _ _ _ (by decide +kernel) h
def b_X9_startChance (t : Nat) : List Instr := match t with
  | 0 => [.aload 0, .checkcast 1182017, .aload 0, .checkcast 1179968, .invokeinterface 1562 1, .aload 0, .iload 1, .putfield 581, .aload 0, .jsr_w 1, .dstore 582, .aload 0, .jsr_w 1, .dstore 583, .return_]
  | _ => []
theorem k_X9_startChance : ∀ t, bok (mC 75) (mB 75) (mL 75) t (b_X9_startChance t) = true := by
  intro t
  unfold b_X9_startChance
  split
  all_goals first | decide +kernel | rfl
theorem e_X9_startChance {d : Nat} {av : List AV} {σ : Mem} {K : Option AV → Mem → Prop} (hl : (entL av).length ≤ 2) (h : wp d 75 b_X9_startChance K 400 (b_X9_startChance 0) (ent 2 av) [] σ) : Ev (d + 1) 75 av σ K := Ev.enter (by decide) (by decide +kernel) hl (wp_ok k_X9_startChance 400 _ 0 _ _ _ (k_X9_startChance 0) h)
theorem r_X9_startChance : mR 75 = none := by decide +kernel
def b_X9_addDay (t : Nat) : List Instr := match t with
  | 0 => [.aload 0, .checkcast 1182017, .checkcast 1310960, .aload 0, .checkcast 1179968, .checkcast 1310960, .getfield 452, .iload 1, .iadd, .putfield 452, .sipush 0, .istore 2, .aload 0, .sipush 1, .invokeinterface 1241 1, .ifCond .eq 45, .iload 2, .aload 0, .checkcast 1179968, .instanceof 643, .getfield 199, .iadd, .istore 2, .jsr 45]
  | 45 => [.aload 0, .sipush 0, .invokeinterface 1241 1, .ifCond .eq 69, .iload 2, .sipush 10, .aload 0, .checkcast 1179968, .instanceof 643, .getfield 199, .isub, .iadd, .istore 2, .jsr 69]
  | 69 => [.aload 0, .dup, .getstatic 582, .jsr_w 10, .lmul, .dstore 582, .aload 0, .dup, .getstatic 583, .iload 2, .i2l, .lmul, .dstore 583, .return_]
  | _ => []
theorem k_X9_addDay : ∀ t, bok (mC 76) (mB 76) (mL 76) t (b_X9_addDay t) = true := by
  intro t
  unfold b_X9_addDay
  split
  all_goals first | decide +kernel | rfl
theorem e_X9_addDay {d : Nat} {av : List AV} {σ : Mem} {K : Option AV → Mem → Prop} (hl : (entL av).length ≤ 3) (h : wp d 76 b_X9_addDay K 400 (b_X9_addDay 0) (ent 3 av) [] σ) : Ev (d + 1) 76 av σ K := Ev.enter (by decide) (by decide +kernel) hl (wp_ok k_X9_addDay 400 _ 0 _ _ _ (k_X9_addDay 0) h)
theorem r_X9_addDay : mR 76 = none := by decide +kernel
def b_X9_stopsIf (t : Nat) : List Instr := match t with
  | 0 => [.aload 0, .checkcast 1182017, .checkcast 1310960, .iload 1, .putfield 453, .aload 0, .checkcast 1182017, .aload 0, .getfield 581, .invokeinterface 1626 1, .sipush (-1), .if_icmp .eq 30, .sipush 1, .goto 31]
  | 30 => [.sipush 0, .jsr 31]
  | 31 => [.ireturn]
  | _ => []
theorem k_X9_stopsIf : ∀ t, bok (mC 77) (mB 77) (mL 77) t (b_X9_stopsIf t) = true := by
  intro t
  unfold b_X9_stopsIf
  split
  all_goals first | decide +kernel | rfl
theorem e_X9_stopsIf {d : Nat} {av : List AV} {σ : Mem} {K : Option AV → Mem → Prop} (hl : (entL av).length ≤ 2) (h : wp d 77 b_X9_stopsIf K 400 (b_X9_stopsIf 0) (ent 2 av) [] σ) : Ev (d + 1) 77 av σ K := Ev.enter (by decide) (by decide +kernel) hl (wp_ok k_X9_stopsIf 400 _ 0 _ _ _ (k_X9_stopsIf 0) h)
theorem r_X9_stopsIf : mR 77 = (some .boolean) := by decide +kernel
def b_X9_commonPart (t : Nat) : List Instr := match t with
  | 0 => [.lload 0, .lstore 4, .lload 2, .lstore 6, .sipush 0, .istore 8, .jsr 9]
  | 9 => [.goto_w 9]
  | 44 => [.lload 4, .lreturn]
  | _ => []
theorem k_X9_commonPart : ∀ t, bok (mC 78) (mB 78) (mL 78) t (b_X9_commonPart t) = true := by
  intro t
  unfold b_X9_commonPart
  split
  all_goals first | decide +kernel | rfl
theorem e_X9_commonPart {d : Nat} {av : List AV} {σ : Mem} {K : Option AV → Mem → Prop} (hl : (entL av).length ≤ 11) (h : wp d 78 b_X9_commonPart K 400 (b_X9_commonPart 0) (ent 11 av) [] σ) : Ev (d + 1) 78 av σ K := Ev.enter (by decide) (by decide +kernel) hl (wp_ok k_X9_commonPart 400 _ 0 _ _ _ (k_X9_commonPart 0) h)
theorem r_X9_commonPart : mR 78 = (some .long) := by decide +kernel
def h_X9_commonPart_9 : List Instr := [.iload 8, .sipush 100, .if_icmp .ge 44, .lload 6, .jsr_w 0, .lcmp, .ifCond .eq 44, .lload 4, .lload 6, .lrem, .lstore 9, .lload 6, .lstore 4, .lload 9, .lstore 6, .iinc 8 1, .goto 9]
theorem l_X9_commonPart_9 {d : Nat} {ls st : List AV} {σ : Mem} {K : Option AV → Mem → Prop} (h : wp d 78 b_X9_commonPart K 400 h_X9_commonPart_9 ls st σ) : Rn (d + 1) 78 9 ls st σ K := wp_ok k_X9_commonPart 400 _ 9 _ _ _ (by decide +kernel) h
def b_X10_begin (t : Nat) : List Instr := match t with
  | 0 => [.aload 0, .aload 1, .ldc_w 643, .aload 0, .checkcast 1310960, .aload 1, .invokeinterface 983 1, .aload 0, .invokeinterface 1290 0, .return_]
  | _ => []
theorem k_X10_begin : ∀ t, bok (mC 79) (mB 79) (mL 79) t (b_X10_begin t) = true := by
  intro t
  unfold b_X10_begin
  split
  all_goals first | decide +kernel | rfl
theorem e_X10_begin {d : Nat} {av : List AV} {σ : Mem} {K : Option AV → Mem → Prop} (hl : (entL av).length ≤ 2) (h : wp d 79 b_X10_begin K 400 (b_X10_begin 0) (ent 2 av) [] σ) : Ev (d + 1) 79 av σ K := Ev.enter (by decide) (by decide +kernel) hl (wp_ok k_X10_begin 400 _ 0 _ _ _ (k_X10_begin 0) h)
theorem r_X10_begin : mR 79 = none := by decide +kernel
def b_X10_breakPlanks (t : Nat) : List Instr := match t with
  | 0 => [.sipush 0, .istore 1, .jsr 2]
  | 2 => [.goto_w 2]
  | 30 => [.sipush 0, .istore 1, .jsr 32]
  | 32 => [.goto_w 32]
  | 49 => [.aload 0, .checkcast 1310960, .dup, .getfield 451, .sipush 1, .iload 2, .ishl, .ior, .putfield 451, .sipush 0, .istore 3, .jsr 66]
  | 66 => [.goto_w 66]
  | 102 => [.iinc 3 1, .goto 66]
  | 108 => [.iinc 1 1, .goto 32]
  | 114 => [.return_]
  | _ => []
theorem k_X10_breakPlanks : ∀ t, bok (mC 80) (mB 80) (mL 80) t (b_X10_breakPlanks t) = true := by
  intro t
  unfold b_X10_breakPlanks
  split
  all_goals first | decide +kernel | rfl
theorem e_X10_breakPlanks {d : Nat} {av : List AV} {σ : Mem} {K : Option AV → Mem → Prop} (hl : (entL av).length ≤ 4) (h : wp d 80 b_X10_breakPlanks K 400 (b_X10_breakPlanks 0) (ent 4 av) [] σ) : Ev (d + 1) 80 av σ K := Ev.enter (by decide) (by decide +kernel) hl (wp_ok k_X10_breakPlanks 400 _ 0 _ _ _ (k_X10_breakPlanks 0) h)
theorem r_X10_breakPlanks : mR 80 = none := by decide +kernel
def h_X10_breakPlanks_2 : List Instr := [.iload 1, .aload 0, .instanceof 643, .getfield 198, .if_icmp .ge 30, .aload 0, .checkcast 1316080, .iload 1, .aload 0, .iload 1, .invokeinterface 1306 1, .iastore, .iinc 1 1, .goto 2]
theorem l_X10_breakPlanks_2 {d : Nat} {ls st : List AV} {σ : Mem} {K : Option AV → Mem → Prop} (h : wp d 80 b_X10_breakPlanks K 400 h_X10_breakPlanks_2 ls st σ) : Rn (d + 1) 80 2 ls st σ K := wp_ok k_X10_breakPlanks 400 _ 2 _ _ _ (by decide +kernel) h
def h_X10_breakPlanks_32 : List Instr := [.iload 1, .sipush 8, .if_icmp .ge 114, .aload 0, .invokeinterface 1402 0, .istore 2, .iload 2, .sipush (-1), .if_icmp .ne 49, .return_]
theorem l_X10_breakPlanks_32 {d : Nat} {ls st : List AV} {σ : Mem} {K : Option AV → Mem → Prop} (h : wp d 80 b_X10_breakPlanks K 400 h_X10_breakPlanks_32 ls st σ) : Rn (d + 1) 80 32 ls st σ K := wp_ok k_X10_breakPlanks 400 _ 32 _ _ _ (by decide +kernel) h
def h_X10_breakPlanks_66 : List Instr := [.iload 3, .aload 0, .instanceof 643, .getfield 198, .if_icmp .ge 108, .aload 0, .checkcast 1310960, .checkcast 918576, .iload 3, .iaload, .iload 2, .sipush 1, .iadd, .if_icmp .ne 102, .aload 0, .checkcast 1310960, .checkcast 918576, .iload 3, .sipush (-1), .iastore, .jsr 102]
theorem l_X10_breakPlanks_66 {d : Nat} {ls st : List AV} {σ : Mem} {K : Option AV → Mem → Prop} (h : wp d 80 b_X10_breakPlanks K 400 h_X10_breakPlanks_66 ls st σ) : Rn (d + 1) 80 66 ls st σ K := wp_ok k_X10_breakPlanks 400 _ 66 _ _ _ (by decide +kernel) h
def b_X10_weightOf (t : Nat) : List Instr := match t with
  | 0 => [.aload 0, .instanceof 643, .checkcast 400144, .arraylength, .ifCond .ne 17, .aload 0, .iload 1, .invokeinterface 1322 1, .ireturn]
  | 17 => [.aload 0, .iload 1, .invokeinterface 1354 1, .aload 0, .checkcast 1312944, .checkcast 658320, .sipush 3, .aload 0, .iload 1, .invokeinterface 1322 1, .iastore, .aload 0, .checkcast 1312944, .checkcast 658320, .sipush 4, .aload 0, .iload 1, .invokeinterface 1370 1, .iastore, .aload 0, .checkcast 1312944, .checkcast 658320, .sipush 5, .aload 0, .iload 1, .invokeinterface 1386 1, .iastore, .sipush 0, .sipush 9999, .aload 0, .checkcast 1312944, .aload 0, .instanceof 643, .checkcast 400144, .invokeinterface 821 1, .dcmp .l, .dcmp .g, .ireturn]
  | _ => []
theorem k_X10_weightOf : ∀ t, bok (mC 81) (mB 81) (mL 81) t (b_X10_weightOf t) = true := by
  intro t
  unfold b_X10_weightOf
  split
  all_goals first | decide +kernel | rfl
theorem e_X10_weightOf {d : Nat} {av : List AV} {σ : Mem} {K : Option AV → Mem → Prop} (hl : (entL av).length ≤ 2) (h : wp d 81 b_X10_weightOf K 400 (b_X10_weightOf 0) (ent 2 av) [] σ) : Ev (d + 1) 81 av σ K := Ev.enter (by decide) (by decide +kernel) hl (wp_ok k_X10_weightOf 400 _ 0 _ _ _ (k_X10_weightOf 0) h)
theorem r_X10_weightOf : mR 81 = (some .int) := by decide +kernel
def b_X10_debtOf (t : Nat) : List Instr := match t with
  | 0 => [.sipush 0, .istore 2, .sipush 0, .istore 3, .jsr 4]
  | 4 => [.goto_w 4]
  | 30 => [.iload 2, .ireturn]
  | _ => []
theorem k_X10_debtOf : ∀ t, bok (mC 82) (mB 82) (mL 82) t (b_X10_debtOf t) = true := by
  intro t
  unfold b_X10_debtOf
  split
  all_goals first | decide +kernel | rfl
theorem e_X10_debtOf {d : Nat} {av : List AV} {σ : Mem} {K : Option AV → Mem → Prop} (hl : (entL av).length ≤ 4) (h : wp d 82 b_X10_debtOf K 400 (b_X10_debtOf 0) (ent 4 av) [] σ) : Ev (d + 1) 82 av σ K := Ev.enter (by decide) (by decide +kernel) hl (wp_ok k_X10_debtOf 400 _ 0 _ _ _ (k_X10_debtOf 0) h)
theorem r_X10_debtOf : mR 82 = (some .int) := by decide +kernel
def h_X10_debtOf_4 : List Instr := [.iload 3, .aload 0, .instanceof 643, .getfield 198, .if_icmp .ge 30, .iload 2, .aload 0, .iload 1, .iload 3, .invokeinterface 1338 2, .iadd, .istore 2, .iinc 3 1, .goto 4]
theorem l_X10_debtOf_4 {d : Nat} {ls st : List AV} {σ : Mem} {K : Option AV → Mem → Prop} (h : wp d 82 b_X10_debtOf K 400 h_X10_debtOf_4 ls st σ) : Rn (d + 1) 82 4 ls st σ K := wp_ok k_X10_debtOf 400 _ 4 _ _ _ (by decide +kernel) h
