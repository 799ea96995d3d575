/-! 02: the layout of the system: kinds of cells, methods, links (written by wip/whole/tables.py) -/
def tbg : List Cond := lw_tbl.filter goodWord
theorem tbg_mk {w : Cond} (h : w ∈ lw_tbl) (h2 : goodWord w = true) : w ∈ tbg := List.mem_filter.mpr ⟨h, h2⟩
def subl (ws tb : List Cond) : Bool := match tb with
  | [] => ws.isEmpty
  | t :: ts => match ws with
    | [] => true
    | w :: r => if w = t then subl r ts else subl (w :: r) ts
theorem subl_in (tb : List Cond) : ∀ ws : List Cond, subl ws tb = true → ∀ w ∈ ws, w ∈ tb := by
  induction tb with
  | nil =>
    intro ws h w hw
    cases ws with
    | nil => cases hw
    | cons a b => simp [subl] at h
  | cons t ts ih =>
    intro ws h w hw
    cases ws with
    | nil => cases hw
    | cons a b =>
      simp only [subl] at h
      by_cases e : a = t
      · rw [if_pos e] at h
        rcases List.mem_cons.mp hw with r | r
        · rw [r, e]; exact List.mem_cons_self
        · exact List.mem_cons_of_mem _ (ih b h w r)
      · rw [if_neg e] at h
        exact List.mem_cons_of_mem _ (ih (a :: b) h w hw)
theorem tbg_sub (ws : List Cond) (h1 : subl ws lw_tbl = true) (h2 : ws.all goodWord = true) : ∀ w ∈ ws, w ∈ tbg := fun w hw => tbg_mk (subl_in _ ws h1 w hw) (List.all_eq_true.mp h2 w hw)
theorem tb_1 {w : Cond} (h : w ∈ tables_1_1) : w ∈ lw_tbl := List.mem_append_right _ (show w ∈ tables_1 from List.mem_append_left _ h)
theorem tb_2 {w : Cond} (h : w ∈ tables_1_2) : w ∈ lw_tbl := List.mem_append_right _ (show w ∈ tables_1 from List.mem_append_right _ (List.mem_append_left _ h))
theorem tb_3 {w : Cond} (h : w ∈ tables_1_3) : w ∈ lw_tbl := List.mem_append_right _ (show w ∈ tables_1 from List.mem_append_right _ (List.mem_append_right _ (List.mem_append_left _ h)))
theorem tb_4 {w : Cond} (h : w ∈ tables_1_4) : w ∈ lw_tbl := List.mem_append_right _ (show w ∈ tables_1 from List.mem_append_right _ (List.mem_append_right _ (List.mem_append_right _ (List.mem_append_left _ h))))
theorem tb_5 {w : Cond} (h : w ∈ tables_1_5) : w ∈ lw_tbl := List.mem_append_right _ (show w ∈ tables_1 from List.mem_append_right _ (List.mem_append_right _ (List.mem_append_right _ (List.mem_append_right _ (List.mem_append_left _ h)))))
theorem tb_6 {w : Cond} (h : w ∈ tables_1_6) : w ∈ lw_tbl := List.mem_append_right _ (show w ∈ tables_1 from List.mem_append_right _ (List.mem_append_right _ (List.mem_append_right _ (List.mem_append_right _ (List.mem_append_right _ (List.mem_append_left _ h))))))
theorem tb_7 {w : Cond} (h : w ∈ tables_1_7) : w ∈ lw_tbl := List.mem_append_right _ (show w ∈ tables_1 from List.mem_append_right _ (List.mem_append_right _ (List.mem_append_right _ (List.mem_append_right _ (List.mem_append_right _ (List.mem_append_right _ (List.mem_append_left _ h)))))))
theorem tb_8 {w : Cond} (h : w ∈ tables_1_8) : w ∈ lw_tbl := List.mem_append_right _ (show w ∈ tables_1 from List.mem_append_right _ (List.mem_append_right _ (List.mem_append_right _ (List.mem_append_right _ (List.mem_append_right _ (List.mem_append_right _ (List.mem_append_right _ (List.mem_append_left _ h))))))))
theorem tb_9 {w : Cond} (h : w ∈ tables_1_9) : w ∈ lw_tbl := List.mem_append_right _ (show w ∈ tables_1 from List.mem_append_right _ (List.mem_append_right _ (List.mem_append_right _ (List.mem_append_right _ (List.mem_append_right _ (List.mem_append_right _ (List.mem_append_right _ (List.mem_append_right _ (h)))))))))
def cnmL : List String := [RX0, RX1, RX2, RX3, RX4, RX5, RX6, RX7, RX8, RX9, RX10, RX11, RX12, "java/lang/Integer", "java/lang/Math", "java/util/Arrays", "java/lang/String", "java/lang/StringLatin1", "jdk/internal/util/Preconditions", "DebtBridgeLaw"]
def cnm (k : Nat) : String := cnmL.getD k ""
/-- fields of a class, by slots: (what, kind, times, plus); what: 0 int, 1 long, 2 boolean, 3 a cell that never changes, 4 a plan -/
def fds (k : Nat) : List (Nat × Nat × Nat × Nat) := match k with
  | 0 => [(3, 10, 1, 0), (0, 0, 0, 0), (0, 0, 0, 0)]
  | 1 => [(3, 10, 0, 0), (3, 16, 1, 0), (3, 17, 1, 0), (3, 18, 1, 0), (3, 19, 1, 0), (0, 0, 0, 0), (0, 0, 0, 0), (0, 0, 0, 0)]
  | 2 => [(3, 20, 1, 0), (0, 0, 0, 0), (0, 0, 0, 0)]
  | 3 => [(3, 21, 1, 0), (3, 22, 1, 0), (3, 23, 1, 0), (3, 24, 1, 0), (3, 25, 1, 0), (0, 0, 0, 0), (0, 0, 0, 0), (0, 0, 0, 0), (0, 0, 0, 0), (0, 0, 0, 0)]
  | 4 => [(3, 40, 0, 0), (3, 26, 1, 0), (0, 0, 0, 0), (0, 0, 0, 0), (0, 0, 0, 0), (0, 0, 0, 0), (0, 0, 0, 0), (0, 0, 0, 0), (2, 0, 0, 0), (4, 3, 0, 0), (0, 0, 0, 0), (0, 0, 0, 0)]
  | 5 => [(3, 27, 1, 0), (3, 28, 1, 0)]
  | 6 => [(3, 10, 0, 0), (3, 29, 1, 0), (3, 30, 1, 0), (3, 31, 1, 0), (3, 32, 1, 0), (0, 0, 0, 0)]
  | 7 => [(3, 33, 1, 0), (3, 34, 1, 0), (3, 35, 1, 0), (0, 0, 0, 0), (0, 0, 0, 0), (0, 0, 0, 0), (0, 0, 0, 0)]
  | 8 => [(3, 36, 1, 0), (2, 0, 0, 0), (0, 0, 0, 0), (0, 0, 0, 0)]
  | 9 => [(3, 10, 0, 0), (3, 10, 0, 1), (3, 37, 1, 0), (3, 38, 1, 0), (0, 0, 0, 0), (0, 0, 0, 0), (1, 0, 0, 0), (1, 0, 0, 0)]
  | 10 => [(3, 7, 1, 0), (3, 5, 1, 0), (3, 39, 1, 0), (4, 3, 0, 0)]
  | 11 => [(3, 40, 1, 0), (3, 4, 0, 0), (3, 10, 0, 0), (3, 10, 0, 1), (3, 0, 0, 0), (3, 0, 0, 1), (3, 2, 0, 0), (3, 6, 0, 0), (3, 1, 0, 0), (3, 9, 0, 0), (3, 41, 1, 0), (3, 42, 1, 0), (3, 43, 1, 0), (0, 0, 0, 0)]
  | 12 => [(0, 0, 0, 0), (3, 44, 1, 0), (3, 45, 1, 0), (3, 46, 1, 0), (3, 47, 1, 0), (0, 0, 0, 0), (0, 0, 0, 0), (0, 0, 0, 0), (0, 0, 0, 0), (0, 0, 0, 0), (0, 0, 0, 0), (0, 0, 0, 0), (0, 0, 0, 0), (0, 0, 0, 0), (0, 0, 0, 0), (0, 0, 0, 0), (3, 48, 1, 0), (3, 49, 1, 0), (3, 50, 1, 0), (3, 51, 1, 0), (3, 52, 1, 0), (0, 0, 0, 0), (0, 0, 0, 0), (3, 53, 1, 0), (0, 0, 0, 0), (3, 54, 1, 0), (0, 0, 0, 0), (0, 0, 0, 0), (0, 0, 0, 0), (3, 55, 1, 0), (3, 56, 1, 0), (3, 57, 1, 0), (3, 58, 1, 0)]
  | _ => []
def aet (k : Nat) : Nat := match k with
  | 20 => 6
  | 36 => 3
  | 40 => 1
  | 41 => 4
  | 42 => 5
  | 43 => 2
  | 45 => 2
  | 58 => 3
  | _ => 0
def alk (k : Nat) : Nat := match k with
  | 16 => 6
  | 17 => 6
  | 18 => 6
  | 19 => 64
  | 20 => 11
  | 21 => 8
  | 22 => 6
  | 23 => 36
  | 24 => 0
  | 25 => 0
  | 26 => 900
  | 27 => 64
  | 28 => 9
  | 29 => 6
  | 30 => 6
  | 31 => 6
  | 32 => 8
  | 33 => 6
  | 34 => 36
  | 35 => 8
  | 36 => 40
  | 37 => 30
  | 38 => 180
  | 39 => 6
  | 40 => 900
  | 41 => 4
  | 42 => 2
  | 43 => 2
  | 44 => 4542
  | 45 => 2
  | 46 => 900
  | 47 => 1514
  | 48 => 900
  | 49 => 9
  | 50 => 8
  | 51 => 54
  | 52 => 6
  | 53 => 6
  | 54 => 6
  | 55 => 360
  | 56 => 4
  | 57 => 4
  | 58 => 160
  | _ => 0
def arf (k : Nat) : Nat × Nat := match k with
  | 20 => (7, 4)
  | 41 => (8, 0)
  | 42 => (10, 2)
  | _ => (0, 0)
def cnk (k : Nat) : Nat := match k with
  | 0 => 2
  | 1 => 1
  | 2 => 1
  | 3 => 0
  | 4 => 1
  | 5 => 4
  | 6 => 1
  | 7 => 15
  | 8 => 4
  | 9 => 1
  | 10 => 4
  | 11 => 1
  | 12 => 1
  | 16 => 1
  | 17 => 1
  | 18 => 1
  | 19 => 1
  | 20 => 1
  | 21 => 0
  | 22 => 0
  | 23 => 0
  | 24 => 0
  | 25 => 0
  | 26 => 1
  | 27 => 4
  | 28 => 4
  | 29 => 1
  | 30 => 1
  | 31 => 1
  | 32 => 1
  | 33 => 15
  | 34 => 15
  | 35 => 15
  | 36 => 4
  | 37 => 1
  | 38 => 1
  | 39 => 4
  | 40 => 1
  | 41 => 1
  | 42 => 1
  | 43 => 1
  | 44 => 1
  | 45 => 1
  | 46 => 1
  | 47 => 1
  | 48 => 1
  | 49 => 1
  | 50 => 1
  | 51 => 1
  | 52 => 1
  | 53 => 1
  | 54 => 1
  | 55 => 1
  | 56 => 1
  | 57 => 1
  | 58 => 1
  | _ => 0
abbrev atys : List FieldType := [.int, .byte, .boolean, .long, .object RX8, .object RX10, .object RX7]
abbrev MI : Type := MethodName × ByteArray × Nat × Option FieldType × Nat × Nat × Bool
def mtab : List MI := [
  (yX0_stepBy, cX0_stepBy, 4, (some .int), 0, 2, false),
  (yX0_canMove, cX0_canMove, 3, (some .boolean), 0, 2, false),
  (yX0_isLet, cX0_isLet, 4, (some .boolean), 0, 2, false),
  (yX0_owesBothWays, cX0_owesBothWays, 3, (some .boolean), 0, 1, false),
  (yX0_goTogether, cX0_goTogether, 4, (some .int), 0, 2, false),
  (yX0_tearPaper, cX0_tearPaper, 3, (some .int), 0, 2, false),
  (yX0_cancelRing, cX0_cancelRing, 6, (some .int), 0, 1, false),
  (yX0_mendPlank, cX0_mendPlank, 2, (some .int), 0, 1, false),
  (yX0_passDay, cX0_passDay, 1, (some .int), 0, 0, false),
  (yX0_draw, cX0_draw, 1, (some .int), 0, 0, false),
  (yX0_doAll, cX0_doAll, 3, (some .int), 0, 1, false),
  (yX0_doOne, cX0_doOne, 5, (some .int), 0, 1, false),
  (yX0_doDrawn, cX0_doDrawn, 4, (some .int), 0, 0, false),
  (yX1_netOf, cX1_netOf, 2, (some .int), 1, 1, false),
  (yX1_coinOfAll, cX1_coinOfAll, 3, (some .int), 1, 0, false),
  (yX1_fewestPapers, cX1_fewestPapers, 4, (some .int), 1, 0, false),
  (yX1_mostGroups, cX1_mostGroups, 6, (some .int), 1, 2, false),
  (yX1_findRings, cX1_findRings, 2, none, 1, 0, false),
  (yX1_follow, cX1_follow, 8, none, 1, 3, false),
  (yX1_close, cX1_close, 3, none, 1, 2, false),
  (yX2_forget, cX2_forget, 1, none, 2, 0, false),
  (yX2_mark, cX2_mark, 2, none, 2, 1, false),
  (yX2_keep, cX2_keep, 1, none, 2, 0, false),
  (yX2_bringBack, cX2_bringBack, 3, none, 2, 2, false),
  (yX4_read, cX4_read, 4, (some (.object "DebtBridge$Plan")), 4, 1, false),
  (yX4_advance, cX4_advance, 1, none, 4, 0, false),
  (yX4_readPlanks, cX4_readPlanks, 3, (some .boolean), 4, 0, false),
  (yX4_takeWord, cX4_takeWord, 2, (some .boolean), 4, 1, false),
  (yX4_isWord, cX4_isWord, 3, (some .boolean), 4, 1, false),
  (yX4_refuse, cX4_refuse, 2, (some .boolean), 4, 1, false),
  (yX4_takeNumber, cX4_takeNumber, 4, (some .int), 4, 2, false),
  (yX4_endLine, cX4_endLine, 1, (some .boolean), 4, 0, false),
  (yX4_takeSign, cX4_takeSign, 2, (some .boolean), 4, 1, false),
  (yX4_isSign, cX4_isSign, 2, (some .boolean), 4, 1, false),
  (yX4_readLine, cX4_readLine, 1, (some .boolean), 4, 0, false),
  (yX4_readPlank, cX4_readPlank, 3, (some .boolean), 4, 0, false),
  (yX4_readPerson, cX4_readPerson, 3, (some .boolean), 4, 0, false),
  (yX4_readPaper, cX4_readPaper, 4, (some .boolean), 4, 0, false),
  (yX4_readWeighs, cX4_readWeighs, 1, (some .boolean), 4, 0, false),
  (yX4_readSum, cX4_readSum, 4, (some .boolean), 4, 1, false),
  (yX4_readTerm, cX4_readTerm, 3, (some .boolean), 4, 1, false),
  (yX4_readAtom, cX4_readAtom, 3, (some .boolean), 4, 1, false),
  (yX4_knownWord, cX4_knownWord, 1, (some .int), 4, 0, false),
  (yX4_emit, cX4_emit, 2, none, 4, 1, false),
  (yX4_readLets, cX4_readLets, 1, (some .boolean), 4, 0, false),
  (yX4_readTruth, cX4_readTruth, 3, (some .boolean), 4, 1, false),
  (yX4_readBoth, cX4_readBoth, 3, (some .boolean), 4, 1, false),
  (yX4_readUnit, cX4_readUnit, 4, (some .boolean), 4, 1, false),
  (yX4_comparison, cX4_comparison, 1, (some .int), 4, 0, false),
  (yX4_readSnowy, cX4_readSnowy, 2, (some .boolean), 4, 0, false),
  (yX4_readDay, cX4_readDay, 2, (some .boolean), 4, 0, false),
  (yX5_valueOf, cX5_valueOf, 8, (some .int), 5, 1, false),
  (yX5_joined, cX5_joined, 5, (some .long), 5, 3, true),
  (yX6_walkTray, cX6_walkTray, 3, (some .int), 6, 1, false),
  (yX6_walk, cX6_walk, 5, (some .int), 6, 1, false),
  (yX6_firstBad, cX6_firstBad, 3, (some .int), 6, 0, false),
  (yX6_weightAt, cX6_weightAt, 2, (some .int), 6, 1, false),
  (yX6_search, cX6_search, 2, (some .int), 6, 1, false),
  (yX6_fill, cX6_fill, 4, none, 6, 2, false),
  (yX6_isBorne, cX6_isBorne, 9, (some .boolean), 6, 2, false),
  (yX6_walkTwo, cX6_walkTwo, 4, (some .int), 6, 3, false),
  (yX7_begin, cX7_begin, 2, none, 7, 1, false),
  (yX7_take, cX7_take, 2, none, 7, 1, false),
  (yX8_holdsPeople, cX8_holdsPeople, 4, (some .boolean), 8, 1, false),
  (yX8_personAt, cX8_personAt, 2, (some .int), 8, 1, false),
  (yX8_make, cX8_make, 3, none, 8, 2, false),
  (yX8_put, cX8_put, 4, (some .long), 8, 2, false),
  (yX8_cut, cX8_cut, 3, (some .long), 8, 1, false),
  (yX9_fewestTorn, cX9_fewestTorn, 5, (some .int), 9, 1, false),
  (yX9_getsOverWithout, cX9_getsOverWithout, 4, (some .boolean), 9, 2, false),
  (yX9_bestForgiven, cX9_bestForgiven, 7, (some .int), 9, 0, false),
  (yX9_findTorn, cX9_findTorn, 5, (some .int), 9, 1, false),
  (yX9_looksLike, cX9_looksLike, 3, (some .boolean), 9, 1, false),
  (yX9_tellsMost, cX9_tellsMost, 5, (some .int), 9, 0, false),
  (yX9_mostAlike, cX9_mostAlike, 6, (some .int), 9, 1, false),
  (yX9_startChance, cX9_startChance, 2, none, 9, 1, false),
  (yX9_addDay, cX9_addDay, 3, none, 9, 1, false),
  (yX9_stopsIf, cX9_stopsIf, 2, (some .boolean), 9, 1, false),
  (yX9_commonPart, cX9_commonPart, 11, (some .long), 9, 2, true),
  (yX10_begin, cX10_begin, 2, none, 10, 1, false),
  (yX10_breakPlanks, cX10_breakPlanks, 4, none, 10, 0, false),
  (yX10_weightOf, cX10_weightOf, 2, (some .int), 10, 1, false),
  (yX10_debtOf, cX10_debtOf, 4, (some .int), 10, 1, false),
  (yX10_owing, cX10_owing, 4, (some .int), 10, 2, false),
  (yX10_knowToday, cX10_knowToday, 2, none, 10, 1, false),
  (yX10_papersOf, cX10_papersOf, 4, (some .int), 10, 1, false),
  (yX10_owedTo, cX10_owedTo, 4, (some .int), 10, 1, false),
  (yX10_firstToBreak, cX10_firstToBreak, 2, (some .int), 10, 0, false),
  (yX10_isBroken, cX10_isBroken, 2, (some .boolean), 10, 1, false),
  (yX10_loadOf, cX10_loadOf, 6, (some .int), 10, 1, false),
  (yX10_isPlank, cX10_isPlank, 2, (some .boolean), 10, 1, false),
  (yX10_bearing, cX10_bearing, 2, (some .int), 10, 1, false),
  (yX10_isPerson, cX10_isPerson, 2, (some .boolean), 10, 1, false),
  (yX10_weighAll, cX10_weighAll, 2, none, 10, 0, false),
  (yX10_onPlanksBits, cX10_onPlanksBits, 3, (some .int), 10, 0, false),
  (yX10_mayCome, cX10_mayCome, 5, (some .boolean), 10, 4, false),
  (yX10_setOwing, cX10_setOwing, 4, none, 10, 3, false),
  (yX10_take, cX10_take, 2, none, 10, 1, false),
  (yX10_fallenBits, cX10_fallenBits, 1, (some .int), 10, 0, false),
  (yX10_bitsAt, cX10_bitsAt, 4, (some .int), 10, 1, false),
  (yX10_eastBits, cX10_eastBits, 1, (some .int), 10, 0, false),
  (yX10_stopAlone, cX10_stopAlone, 4, (some .int), 10, 1, false),
  (yX10_ableBits, cX10_ableBits, 3, (some .int), 10, 0, false),
  (yX10_mendsNeeded, cX10_mendsNeeded, 5, (some .int), 10, 2, false),
  (yX10_allPapers, cX10_allPapers, 3, (some .int), 10, 0, false),
  (yX10_allDebt, cX10_allDebt, 3, (some .int), 10, 0, false),
  (yX11_feed, cX11_feed, 6, (some .int), 11, 5, false),
  (yX11_feedInt, cX11_feedInt, 3, none, 11, 1, false),
  (yX11_bridge, cX11_bridge, 3, (some .int), 11, 1, false),
  (yX11_fault, cX11_fault, 2, (some .int), 11, 1, false),
  (yX11_person, cX11_person, 3, (some .int), 11, 2, false),
  (yX11_owes, cX11_owes, 3, (some .int), 11, 2, false),
  (yX11_plank, cX11_plank, 3, (some .int), 11, 2, false),
  (yX11_seed, cX11_seed, 3, (some .int), 11, 1, false),
  (yX11_step, cX11_step, 4, (some .int), 11, 2, false),
  (yX11_ended, cX11_ended, 2, (some .boolean), 11, 1, false),
  (yX11_hand, cX11_hand, 4, (some .int), 11, 2, false),
  (yX11_tear, cX11_tear, 5, (some .int), 11, 2, false),
  (yX11_cancel, cX11_cancel, 4, (some .int), 11, 1, false),
  (yX11_trayCode, cX11_trayCode, 2, (some .int), 11, 1, false),
  (yX11_isTray, cX11_isTray, 2, (some .boolean), 11, 1, false),
  (yX11_mend, cX11_mend, 3, (some .int), 11, 1, false),
  (yX11_days, cX11_days, 4, (some .int), 11, 1, false),
  (yX11_undo, cX11_undo, 2, (some .int), 11, 1, false),
  (yX11_judge, cX11_judge, 5, (some .int), 11, 2, false),
  (yX11_perform, cX11_perform, 4, (some .int), 11, 1, false),
  (yX11_season, cX11_season, 6, (some .int), 11, 2, false),
  (yX11_alone, cX11_alone, 2, (some .int), 11, 1, false),
  (yX11_able, cX11_able, 1, (some .int), 11, 0, false),
  (yX11_tears, cX11_tears, 4, (some .int), 11, 2, false),
  (yX11_row, cX11_row, 4, (some .int), 11, 1, false),
  (yX11_order, cX11_order, 4, (some .int), 11, 2, false),
  (yX11_isSet, cX11_isSet, 3, (some .boolean), 11, 1, false),
  (yX11_orders, cX11_orders, 2, (some .int), 11, 1, false),
  (yX11_apart, cX11_apart, 4, (some .int), 11, 2, false),
  (yX11_net, cX11_net, 2, (some .int), 11, 1, false),
  (yX11_coin, cX11_coin, 1, (some .int), 11, 0, false),
  (yX11_settles, cX11_settles, 1, (some .int), 11, 0, false),
  (yX11_rings, cX11_rings, 1, (some .int), 11, 0, false),
  (yX11_ring, cX11_ring, 3, (some .int), 11, 1, false),
  (yX11_heaviest, cX11_heaviest, 3, (some .int), 11, 0, false),
  (yX11_forgive, cX11_forgive, 1, (some .int), 11, 0, false),
  (yX11_mends, cX11_mends, 2, (some .int), 11, 1, false),
  (yX11_canBeMendedFor, cX11_canBeMendedFor, 3, (some .boolean), 11, 1, false),
  (yX11_mendsOver, cX11_mendsOver, 6, (some .int), 11, 1, false),
  (yX11_mendsAt, cX11_mendsAt, 3, (some .int), 11, 2, false),
  (yX11_mendsAll, cX11_mendsAll, 2, (some .int), 11, 0, false),
  (yX11_torn, cX11_torn, 3, (some .int), 11, 1, false),
  (yX11_seenCode, cX11_seenCode, 3, (some .int), 11, 1, false),
  (yX11_tornAt, cX11_tornAt, 4, (some .int), 11, 2, false),
  (yX11_weighed, cX11_weighed, 3, (some .int), 11, 1, false),
  (yX11_chance, cX11_chance, 8, (some .long), 11, 3, false),
  (yX11_likely, cX11_likely, 4, (some .int), 11, 2, false),
  (yX11_numbers, cX11_numbers, 4, (some .int), 11, 3, false),
  (yX11_write, cX11_write, 6, (some .long), 11, 3, false),
  (yX11_lists, cX11_lists, 5, (some .int), 11, 1, false),
  (yX11_image, cX11_image, 2, (some .int), 11, 1, false),
  (yX11_restore, cX11_restore, 2, (some .int), 11, 1, false),
  (yX11_count, cX11_count, 2, (some .int), 11, 1, false),
  (yX12_plain, cX12_plain, 2, none, 12, 1, true),
  (yX12_feed, cX12_feed, 8, (some .int), 12, 5, false),
  (yX12_bridge, cX12_bridge, 4, (some .int), 12, 1, false),
  (yX12_within, cX12_within, 6, (some .boolean), 12, 3, true),
  (yX12_next, cX12_next, 2, none, 12, 0, false),
  (yX12_see, cX12_see, 2, (some .int), 12, 1, false),
  (yX12_isSmall, cX12_isSmall, 1, (some .boolean), 12, 1, true),
  (yX12_keyAt, cX12_keyAt, 4, (some .int), 12, 0, false),
  (yX12_isDigit, cX12_isDigit, 1, (some .boolean), 12, 1, true),
  (yX12_eats, cX12_eats, 2, (some .boolean), 12, 1, false),
  (yX12_is, cX12_is, 2, (some .boolean), 12, 1, false),
  (yX12_fails, cX12_fails, 2, none, 12, 1, false),
  (yX12_takes, cX12_takes, 4, (some .int), 12, 2, false),
  (yX12_ends, cX12_ends, 1, none, 12, 0, false),
  (yX12_readLine, cX12_readLine, 1, none, 12, 0, false),
  (yX12_readPlank, cX12_readPlank, 3, none, 12, 0, false),
  (yX12_readPerson, cX12_readPerson, 2, none, 12, 0, false),
  (yX12_readPaper, cX12_readPaper, 4, none, 12, 0, false),
  (yX12_readLaw, cX12_readLaw, 3, none, 12, 1, false),
  (yX12_readSum, cX12_readSum, 3, none, 12, 1, false),
  (yX12_readTerm, cX12_readTerm, 2, none, 12, 1, false),
  (yX12_readAtom, cX12_readAtom, 2, none, 12, 1, false),
  (yX12_codes, cX12_codes, 2, none, 12, 1, false),
  (yX12_wordOf, cX12_wordOf, 2, (some .int), 12, 1, false),
  (yX12_goesIn, cX12_goesIn, 2, (some .boolean), 12, 1, false),
  (yX12_readTruth, cX12_readTruth, 2, none, 12, 1, false),
  (yX12_readBoth, cX12_readBoth, 2, none, 12, 1, false),
  (yX12_readUnit, cX12_readUnit, 3, none, 12, 1, false),
  (yX12_breaks, cX12_breaks, 3, none, 12, 0, false),
  (yX12_laysNow, cX12_laysNow, 2, none, 12, 0, false),
  (yX12_isOn, cX12_isOn, 2, (some .boolean), 12, 1, false),
  (yX12_weightOf, cX12_weightOf, 3, (some .int), 12, 1, false),
  (yX12_debtOf, cX12_debtOf, 4, (some .int), 12, 1, false),
  (yX12_debt, cX12_debt, 3, (some .int), 12, 2, false),
  (yX12_papersOf, cX12_papersOf, 4, (some .int), 12, 1, false),
  (yX12_owedTo, cX12_owedTo, 4, (some .int), 12, 1, false),
  (yX12_reckons, cX12_reckons, 6, (some .int), 12, 2, false),
  (yX12_between, cX12_between, 5, (some .int), 12, 3, true),
  (yX12_firstOver, cX12_firstOver, 2, (some .int), 12, 0, false),
  (yX12_isIn, cX12_isIn, 3, (some .boolean), 12, 2, true),
  (yX12_loadOf, cX12_loadOf, 2, (some .int), 12, 1, false),
  (yX12_bearsOf, cX12_bearsOf, 2, (some .int), 12, 1, false),
  (yX12_fault, cX12_fault, 2, (some .int), 12, 1, false),
  (yX12_person, cX12_person, 3, (some .int), 12, 2, false),
  (yX12_isPerson, cX12_isPerson, 3, (some .boolean), 12, 1, false),
  (yX12_owes, cX12_owes, 3, (some .int), 12, 2, false),
  (yX12_plank, cX12_plank, 3, (some .int), 12, 2, false),
  (yX12_isPlank, cX12_isPlank, 3, (some .boolean), 12, 1, false),
  (yX12_seed, cX12_seed, 2, (some .int), 12, 1, false),
  (yX12_keeps, cX12_keeps, 2, none, 12, 0, false),
  (yX12_notes, cX12_notes, 2, none, 12, 0, false),
  (yX12_step, cX12_step, 5, (some .int), 12, 2, false),
  (yX12_whyStep, cX12_whyStep, 6, (some .int), 12, 2, false),
  (yX12_isFallen, cX12_isFallen, 2, (some .boolean), 12, 1, false),
  (yX12_isPlankBroken, cX12_isPlankBroken, 2, (some .boolean), 12, 1, false),
  (yX12_mayGo, cX12_mayGo, 3, (some .boolean), 12, 2, false),
  (yX12_othersOn, cX12_othersOn, 4, (some .int), 12, 1, false),
  (yX12_mayCome, cX12_mayCome, 5, (some .boolean), 12, 3, false),
  (yX12_isTied, cX12_isTied, 3, (some .boolean), 12, 1, false),
  (yX12_goes, cX12_goes, 3, none, 12, 2, false),
  (yX12_hand, cX12_hand, 4, (some .int), 12, 2, false),
  (yX12_whyHand, cX12_whyHand, 8, (some .int), 12, 2, false),
  (yX12_areTwo, cX12_areTwo, 5, (some .boolean), 12, 2, false),
  (yX12_goesBoth, cX12_goesBoth, 3, none, 12, 2, false),
  (yX12_tear, cX12_tear, 5, (some .int), 12, 2, false),
  (yX12_whyTear, cX12_whyTear, 5, (some .int), 12, 2, false),
  (yX12_tears1, cX12_tears1, 3, none, 12, 2, false),
  (yX12_cancel, cX12_cancel, 5, (some .int), 12, 1, false),
  (yX12_noTray, cX12_noTray, 2, (some .int), 12, 1, false),
  (yX12_laysPeople, cX12_laysPeople, 6, (some .boolean), 12, 1, false),
  (yX12_leastOf, cX12_leastOf, 4, (some .int), 12, 0, false),
  (yX12_mend, cX12_mend, 3, (some .int), 12, 1, false),
  (yX12_whyMend, cX12_whyMend, 3, (some .int), 12, 1, false),
  (yX12_mends1, cX12_mends1, 2, none, 12, 1, false),
  (yX12_days, cX12_days, 4, (some .int), 12, 1, false),
  (yX12_goesDay, cX12_goesDay, 1, (some .int), 12, 0, false),
  (yX12_draw, cX12_draw, 2, (some .int), 12, 1, false),
  (yX12_undo, cX12_undo, 3, (some .int), 12, 1, false),
  (yX12_judge, cX12_judge, 7, (some .int), 12, 2, false),
  (yX12_tells, cX12_tells, 3, (some .int), 12, 1, false),
  (yX12_whyNot, cX12_whyNot, 3, (some .int), 12, 1, false),
  (yX12_does, cX12_does, 2, none, 12, 1, false),
  (yX12_fallen, cX12_fallen, 3, (some .int), 12, 0, false),
  (yX12_onEast, cX12_onEast, 3, (some .int), 12, 0, false),
  (yX12_isAgain, cX12_isAgain, 2, none, 12, 0, false),
  (yX12_perform, cX12_perform, 4, (some .int), 12, 1, false),
  (yX12_season, cX12_season, 6, (some .int), 12, 2, false),
  (yX12_drawn, cX12_drawn, 3, (some .int), 12, 0, false),
  (yX12_alone, cX12_alone, 2, (some .int), 12, 1, false),
  (yX12_stops, cX12_stops, 5, (some .int), 12, 1, false),
  (yX12_laysNone, cX12_laysNone, 2, none, 12, 0, false),
  (yX12_able, cX12_able, 1, (some .int), 12, 0, false),
  (yX12_ableSet, cX12_ableSet, 3, (some .int), 12, 0, false),
  (yX12_tears, cX12_tears, 7, (some .int), 12, 2, false),
  (yX12_bitsOf, cX12_bitsOf, 3, (some .int), 12, 1, true),
  (yX12_row, cX12_row, 3, (some .int), 12, 1, false),
  (yX12_stopsRow, cX12_stopsRow, 8, (some .int), 12, 1, false),
  (yX12_order, cX12_order, 3, (some .int), 12, 2, false),
  (yX12_isSet, cX12_isSet, 2, (some .boolean), 12, 1, false),
  (yX12_laysRows, cX12_laysRows, 2, none, 12, 1, false),
  (yX12_goesRows, cX12_goesRows, 3, none, 12, 1, false),
  (yX12_orders, cX12_orders, 2, (some .int), 12, 1, false),
  (yX12_apart, cX12_apart, 4, (some .int), 12, 2, false),
  (yX12_net, cX12_net, 2, (some .int), 12, 1, false),
  (yX12_netOf, cX12_netOf, 2, (some .int), 12, 1, false),
  (yX12_coin, cX12_coin, 3, (some .int), 12, 0, false),
  (yX12_settles, cX12_settles, 3, (some .int), 12, 0, false),
  (yX12_groups, cX12_groups, 5, (some .int), 12, 1, false),
  (yX12_sumOf, cX12_sumOf, 4, (some .int), 12, 1, false),
  (yX12_rings, cX12_rings, 1, (some .int), 12, 0, false),
  (yX12_laysRings, cX12_laysRings, 2, none, 12, 0, false),
  (yX12_goesRing, cX12_goesRing, 5, none, 12, 1, false),
  (yX12_laysRing, cX12_laysRing, 3, none, 12, 0, false),
  (yX12_ring, cX12_ring, 2, (some .int), 12, 1, false),
  (yX12_heaviest, cX12_heaviest, 3, (some .int), 12, 0, false),
  (yX12_forgive, cX12_forgive, 6, (some .int), 12, 0, false),
  (yX12_mends, cX12_mends, 2, (some .int), 12, 1, false),
  (yX12_needsAll, cX12_needsAll, 4, (some .int), 12, 1, false),
  (yX12_needs, cX12_needs, 5, (some .int), 12, 2, false),
  (yX12_mendsAt, cX12_mendsAt, 3, (some .int), 12, 2, false),
  (yX12_mendsAll, cX12_mendsAll, 5, (some .int), 12, 0, false),
  (yX12_torn, cX12_torn, 5, (some .int), 12, 1, false),
  (yX12_noSeen, cX12_noSeen, 3, (some .int), 12, 1, false),
  (yX12_fits, cX12_fits, 8, (some .boolean), 12, 2, false),
  (yX12_tornAt, cX12_tornAt, 6, (some .int), 12, 2, false),
  (yX12_weighed, cX12_weighed, 12, (some .int), 12, 1, false),
  (yX12_chance, cX12_chance, 8, (some .long), 12, 3, false),
  (yX12_chanceOf, cX12_chanceOf, 9, (some .long), 12, 2, false),
  (yX12_tens, cX12_tens, 4, (some .long), 12, 1, true),
  (yX12_common, cX12_common, 4, (some .long), 12, 2, true),
  (yX12_likely, cX12_likely, 4, (some .int), 12, 2, false),
  (yX12_numbers, cX12_numbers, 5, (some .int), 12, 3, false),
  (yX12_write, cX12_write, 6, (some .long), 12, 3, false),
  (yX12_cut, cX12_cut, 3, (some .long), 12, 2, true),
  (yX12_lists, cX12_lists, 5, (some .int), 12, 1, false),
  (yX12_image, cX12_image, 3, (some .int), 12, 1, false),
  (yX12_restore, cX12_restore, 3, (some .int), 12, 1, false),
  (yX12_count, cX12_count, 2, (some .int), 12, 1, false),
  (yX12_onPlanks, cX12_onPlanks, 3, (some .int), 12, 0, false),
  (yX12_papersAll, cX12_papersAll, 3, (some .int), 12, 0, false),
  (yX12_debtAll, cX12_debtAll, 3, (some .int), 12, 0, false),
  (yJ7_fill_53178, cJ7_fill_53178, 4, none, 15, 2, true),
  (yJ6_bitCount_0f7a4, cJ6_bitCount_0f7a4, 1, (some .int), 13, 1, true),
  (yJ7_fill_d0a16, cJ7_fill_d0a16, 5, none, 15, 2, true),
  (yJ0_length_8abf5, cJ0_length_8abf5, 1, (some .int), 16, 0, false),
  (yJ0_coder_7d493, cJ0_coder_7d493, 1, (some .byte), 16, 0, false),
  (yJ0_isLatin1_aae02, cJ0_isLatin1_aae02, 1, (some .boolean), 16, 0, false),
  (yJ0_charAt_5068e, cJ0_charAt_5068e, 2, (some .char), 16, 1, false),
  (yJ0_checkIndex_df160, cJ0_checkIndex_df160, 2, none, 16, 2, true),
  (yJ0_indexOf_0f7a4, cJ0_indexOf_0f7a4, 2, (some .int), 16, 1, false),
  (yJ0_indexOf_7cf53, cJ0_indexOf_7cf53, 3, (some .int), 16, 2, false),
  (yJ1_charAt_3b067, cJ1_charAt_3b067, 2, (some .char), 17, 2, true),
  (yJ1_indexOf_4cfef, cJ1_indexOf_4cfef, 4, (some .int), 17, 4, true),
  (yJ1_canEncode_9a6ad, cJ1_canEncode_9a6ad, 1, (some .boolean), 17, 1, true),
  (yJ1_indexOfChar_4cfef, cJ1_indexOfChar_4cfef, 6, (some .int), 17, 4, true),
  (yJ3_checkIndex_8e157, cJ3_checkIndex_8e157, 3, (some .int), 18, 3, true)]
def mt0 : MI := (x, code, 4, ret, 19, 1, true)
def mY (j : Nat) := (mtab.getD j mt0).1
def mB (j : Nat) := (mtab.getD j mt0).2.1
def mL (j : Nat) := (mtab.getD j mt0).2.2.1
def mR (j : Nat) := (mtab.getD j mt0).2.2.2.1
def mC (j : Nat) := (mtab.getD j mt0).2.2.2.2.1
def mP (j : Nat) := (mtab.getD j mt0).2.2.2.2.2.1
def mS (j : Nat) := (mtab.getD j mt0).2.2.2.2.2.2
def mW (e : MI) : Cond := .code e.1 e.2.1 e.2.2.1 e.2.2.2.1
theorem mc_0 : mW (yX0_stepBy, cX0_stepBy, 4, (some .int), 0, 2, false) ∈ tbg := tbg_mk (tb_4 (List.mem_of_getElem? (i := 131) rfl)) rfl
theorem mc_1 : mW (yX0_canMove, cX0_canMove, 3, (some .boolean), 0, 2, false) ∈ tbg := tbg_mk (tb_4 (List.mem_of_getElem? (i := 136) rfl)) rfl
theorem mc_2 : mW (yX0_isLet, cX0_isLet, 4, (some .boolean), 0, 2, false) ∈ tbg := tbg_mk (tb_4 (List.mem_of_getElem? (i := 142) rfl)) rfl
theorem mc_3 : mW (yX0_owesBothWays, cX0_owesBothWays, 3, (some .boolean), 0, 1, false) ∈ tbg := tbg_mk (tb_4 (List.mem_of_getElem? (i := 161) rfl)) rfl
theorem mc_4 : mW (yX0_goTogether, cX0_goTogether, 4, (some .int), 0, 2, false) ∈ tbg := tbg_mk (tb_4 (List.mem_of_getElem? (i := 175) rfl)) rfl
theorem mc_5 : mW (yX0_tearPaper, cX0_tearPaper, 3, (some .int), 0, 2, false) ∈ tbg := tbg_mk (tb_4 (List.mem_of_getElem? (i := 183) rfl)) rfl
theorem mc_6 : mW (yX0_cancelRing, cX0_cancelRing, 6, (some .int), 0, 1, false) ∈ tbg := tbg_mk (tb_4 (List.mem_of_getElem? (i := 203) rfl)) rfl
theorem mc_7 : mW (yX0_mendPlank, cX0_mendPlank, 2, (some .int), 0, 1, false) ∈ tbg := tbg_mk (tb_4 (List.mem_of_getElem? (i := 220) rfl)) rfl
theorem mc_8 : mW (yX0_passDay, cX0_passDay, 1, (some .int), 0, 0, false) ∈ tbg := tbg_mk (tb_4 (List.mem_of_getElem? (i := 228) rfl)) rfl
theorem mc_9 : mW (yX0_draw, cX0_draw, 1, (some .int), 0, 0, false) ∈ tbg := tbg_mk (tb_4 (List.mem_of_getElem? (i := 232) rfl)) rfl
theorem mc_10 : mW (yX0_doAll, cX0_doAll, 3, (some .int), 0, 1, false) ∈ tbg := tbg_mk (tb_5 (List.mem_of_getElem? (i := 14) rfl)) rfl
theorem mc_11 : mW (yX0_doOne, cX0_doOne, 5, (some .int), 0, 1, false) ∈ tbg := tbg_mk (tb_5 (List.mem_of_getElem? (i := 18) rfl)) rfl
theorem mc_12 : mW (yX0_doDrawn, cX0_doDrawn, 4, (some .int), 0, 0, false) ∈ tbg := tbg_mk (tb_5 (List.mem_of_getElem? (i := 49) rfl)) rfl
theorem mc_13 : mW (yX1_netOf, cX1_netOf, 2, (some .int), 1, 1, false) ∈ tbg := tbg_mk (tb_5 (List.mem_of_getElem? (i := 153) rfl)) rfl
theorem mc_14 : mW (yX1_coinOfAll, cX1_coinOfAll, 3, (some .int), 1, 0, false) ∈ tbg := tbg_mk (tb_5 (List.mem_of_getElem? (i := 164) rfl)) rfl
theorem mc_15 : mW (yX1_fewestPapers, cX1_fewestPapers, 4, (some .int), 1, 0, false) ∈ tbg := tbg_mk (tb_5 (List.mem_of_getElem? (i := 174) rfl)) rfl
theorem mc_16 : mW (yX1_mostGroups, cX1_mostGroups, 6, (some .int), 1, 2, false) ∈ tbg := tbg_mk (tb_5 (List.mem_of_getElem? (i := 178) rfl)) rfl
theorem mc_17 : mW (yX1_findRings, cX1_findRings, 2, none, 1, 0, false) ∈ tbg := tbg_mk (tb_5 (List.mem_of_getElem? (i := 186) rfl)) rfl
theorem mc_18 : mW (yX1_follow, cX1_follow, 8, none, 1, 3, false) ∈ tbg := tbg_mk (tb_5 (List.mem_of_getElem? (i := 190) rfl)) rfl
theorem mc_19 : mW (yX1_close, cX1_close, 3, none, 1, 2, false) ∈ tbg := tbg_mk (tb_5 (List.mem_of_getElem? (i := 196) rfl)) rfl
theorem mc_20 : mW (yX2_forget, cX2_forget, 1, none, 2, 0, false) ∈ tbg := tbg_mk (tb_4 (List.mem_of_getElem? (i := 74) rfl)) rfl
theorem mc_21 : mW (yX2_mark, cX2_mark, 2, none, 2, 1, false) ∈ tbg := tbg_mk (tb_4 (List.mem_of_getElem? (i := 115) rfl)) rfl
theorem mc_22 : mW (yX2_keep, cX2_keep, 1, none, 2, 0, false) ∈ tbg := tbg_mk (tb_4 (List.mem_of_getElem? (i := 123) rfl)) rfl
theorem mc_23 : mW (yX2_bringBack, cX2_bringBack, 3, none, 2, 2, false) ∈ tbg := tbg_mk (tb_5 (List.mem_of_getElem? (i := 1) rfl)) rfl
theorem mc_24 : mW (yX4_read, cX4_read, 4, (some (.object "DebtBridge$Plan")), 4, 1, false) ∈ tbg := tbg_mk (tb_2 (List.mem_of_getElem? (i := 221) rfl)) rfl
theorem mc_25 : mW (yX4_advance, cX4_advance, 1, none, 4, 0, false) ∈ tbg := tbg_mk (tb_2 (List.mem_of_getElem? (i := 231) rfl)) rfl
theorem mc_26 : mW (yX4_readPlanks, cX4_readPlanks, 3, (some .boolean), 4, 0, false) ∈ tbg := tbg_mk (tb_3 (List.mem_of_getElem? (i := 78) rfl)) rfl
theorem mc_27 : mW (yX4_takeWord, cX4_takeWord, 2, (some .boolean), 4, 1, false) ∈ tbg := tbg_mk (tb_3 (List.mem_of_getElem? (i := 83) rfl)) rfl
theorem mc_28 : mW (yX4_isWord, cX4_isWord, 3, (some .boolean), 4, 1, false) ∈ tbg := tbg_mk (tb_3 (List.mem_of_getElem? (i := 87) rfl)) rfl
theorem mc_29 : mW (yX4_refuse, cX4_refuse, 2, (some .boolean), 4, 1, false) ∈ tbg := tbg_mk (tb_3 (List.mem_of_getElem? (i := 112) rfl)) rfl
theorem mc_30 : mW (yX4_takeNumber, cX4_takeNumber, 4, (some .int), 4, 2, false) ∈ tbg := tbg_mk (tb_3 (List.mem_of_getElem? (i := 116) rfl)) rfl
theorem mc_31 : mW (yX4_endLine, cX4_endLine, 1, (some .boolean), 4, 0, false) ∈ tbg := tbg_mk (tb_3 (List.mem_of_getElem? (i := 124) rfl)) rfl
theorem mc_32 : mW (yX4_takeSign, cX4_takeSign, 2, (some .boolean), 4, 1, false) ∈ tbg := tbg_mk (tb_3 (List.mem_of_getElem? (i := 128) rfl)) rfl
theorem mc_33 : mW (yX4_isSign, cX4_isSign, 2, (some .boolean), 4, 1, false) ∈ tbg := tbg_mk (tb_3 (List.mem_of_getElem? (i := 132) rfl)) rfl
theorem mc_34 : mW (yX4_readLine, cX4_readLine, 1, (some .boolean), 4, 0, false) ∈ tbg := tbg_mk (tb_3 (List.mem_of_getElem? (i := 136) rfl)) rfl
theorem mc_35 : mW (yX4_readPlank, cX4_readPlank, 3, (some .boolean), 4, 0, false) ∈ tbg := tbg_mk (tb_3 (List.mem_of_getElem? (i := 141) rfl)) rfl
theorem mc_36 : mW (yX4_readPerson, cX4_readPerson, 3, (some .boolean), 4, 0, false) ∈ tbg := tbg_mk (tb_3 (List.mem_of_getElem? (i := 147) rfl)) rfl
theorem mc_37 : mW (yX4_readPaper, cX4_readPaper, 4, (some .boolean), 4, 0, false) ∈ tbg := tbg_mk (tb_3 (List.mem_of_getElem? (i := 153) rfl)) rfl
theorem mc_38 : mW (yX4_readWeighs, cX4_readWeighs, 1, (some .boolean), 4, 0, false) ∈ tbg := tbg_mk (tb_3 (List.mem_of_getElem? (i := 160) rfl)) rfl
theorem mc_39 : mW (yX4_readSum, cX4_readSum, 4, (some .boolean), 4, 1, false) ∈ tbg := tbg_mk (tb_3 (List.mem_of_getElem? (i := 164) rfl)) rfl
theorem mc_40 : mW (yX4_readTerm, cX4_readTerm, 3, (some .boolean), 4, 1, false) ∈ tbg := tbg_mk (tb_3 (List.mem_of_getElem? (i := 168) rfl)) rfl
theorem mc_41 : mW (yX4_readAtom, cX4_readAtom, 3, (some .boolean), 4, 1, false) ∈ tbg := tbg_mk (tb_3 (List.mem_of_getElem? (i := 172) rfl)) rfl
theorem mc_42 : mW (yX4_knownWord, cX4_knownWord, 1, (some .int), 4, 0, false) ∈ tbg := tbg_mk (tb_3 (List.mem_of_getElem? (i := 176) rfl)) rfl
theorem mc_43 : mW (yX4_emit, cX4_emit, 2, none, 4, 1, false) ∈ tbg := tbg_mk (tb_3 (List.mem_of_getElem? (i := 188) rfl)) rfl
theorem mc_44 : mW (yX4_readLets, cX4_readLets, 1, (some .boolean), 4, 0, false) ∈ tbg := tbg_mk (tb_3 (List.mem_of_getElem? (i := 207) rfl)) rfl
theorem mc_45 : mW (yX4_readTruth, cX4_readTruth, 3, (some .boolean), 4, 1, false) ∈ tbg := tbg_mk (tb_3 (List.mem_of_getElem? (i := 211) rfl)) rfl
theorem mc_46 : mW (yX4_readBoth, cX4_readBoth, 3, (some .boolean), 4, 1, false) ∈ tbg := tbg_mk (tb_3 (List.mem_of_getElem? (i := 215) rfl)) rfl
theorem mc_47 : mW (yX4_readUnit, cX4_readUnit, 4, (some .boolean), 4, 1, false) ∈ tbg := tbg_mk (tb_3 (List.mem_of_getElem? (i := 219) rfl)) rfl
theorem mc_48 : mW (yX4_comparison, cX4_comparison, 1, (some .int), 4, 0, false) ∈ tbg := tbg_mk (tb_3 (List.mem_of_getElem? (i := 224) rfl)) rfl
theorem mc_49 : mW (yX4_readSnowy, cX4_readSnowy, 2, (some .boolean), 4, 0, false) ∈ tbg := tbg_mk (tb_3 (List.mem_of_getElem? (i := 231) rfl)) rfl
theorem mc_50 : mW (yX4_readDay, cX4_readDay, 2, (some .boolean), 4, 0, false) ∈ tbg := tbg_mk (tb_3 (List.mem_of_getElem? (i := 235) rfl)) rfl
theorem mc_51 : mW (yX5_valueOf, cX5_valueOf, 8, (some .int), 5, 1, false) ∈ tbg := tbg_mk (tb_4 (List.mem_of_getElem? (i := 37) rfl)) rfl
theorem mc_52 : mW (yX5_joined, cX5_joined, 5, (some .long), 5, 3, true) ∈ tbg := tbg_mk (tb_4 (List.mem_of_getElem? (i := 40) rfl)) rfl
theorem mc_53 : mW (yX6_walkTray, cX6_walkTray, 3, (some .int), 6, 1, false) ∈ tbg := tbg_mk (tb_5 (List.mem_of_getElem? (i := 93) rfl)) rfl
theorem mc_54 : mW (yX6_walk, cX6_walk, 5, (some .int), 6, 1, false) ∈ tbg := tbg_mk (tb_5 (List.mem_of_getElem? (i := 99) rfl)) rfl
theorem mc_55 : mW (yX6_firstBad, cX6_firstBad, 3, (some .int), 6, 0, false) ∈ tbg := tbg_mk (tb_5 (List.mem_of_getElem? (i := 106) rfl)) rfl
theorem mc_56 : mW (yX6_weightAt, cX6_weightAt, 2, (some .int), 6, 1, false) ∈ tbg := tbg_mk (tb_5 (List.mem_of_getElem? (i := 111) rfl)) rfl
theorem mc_57 : mW (yX6_search, cX6_search, 2, (some .int), 6, 1, false) ∈ tbg := tbg_mk (tb_5 (List.mem_of_getElem? (i := 124) rfl)) rfl
theorem mc_58 : mW (yX6_fill, cX6_fill, 4, none, 6, 2, false) ∈ tbg := tbg_mk (tb_5 (List.mem_of_getElem? (i := 128) rfl)) rfl
theorem mc_59 : mW (yX6_isBorne, cX6_isBorne, 9, (some .boolean), 6, 2, false) ∈ tbg := tbg_mk (tb_5 (List.mem_of_getElem? (i := 132) rfl)) rfl
theorem mc_60 : mW (yX6_walkTwo, cX6_walkTwo, 4, (some .int), 6, 3, false) ∈ tbg := tbg_mk (tb_5 (List.mem_of_getElem? (i := 145) rfl)) rfl
theorem mc_61 : mW (yX7_begin, cX7_begin, 2, none, 7, 1, false) ∈ tbg := tbg_mk (tb_4 (List.mem_of_getElem? (i := 3) rfl)) rfl
theorem mc_62 : mW (yX7_take, cX7_take, 2, none, 7, 1, false) ∈ tbg := tbg_mk (tb_4 (List.mem_of_getElem? (i := 119) rfl)) rfl
theorem mc_63 : mW (yX8_holdsPeople, cX8_holdsPeople, 4, (some .boolean), 8, 1, false) ∈ tbg := tbg_mk (tb_4 (List.mem_of_getElem? (i := 207) rfl)) rfl
theorem mc_64 : mW (yX8_personAt, cX8_personAt, 2, (some .int), 8, 1, false) ∈ tbg := tbg_mk (tb_4 (List.mem_of_getElem? (i := 211) rfl)) rfl
theorem mc_65 : mW (yX8_make, cX8_make, 3, none, 8, 2, false) ∈ tbg := tbg_mk (tb_6 (List.mem_of_getElem? (i := 72) rfl)) rfl
theorem mc_66 : mW (yX8_put, cX8_put, 4, (some .long), 8, 2, false) ∈ tbg := tbg_mk (tb_6 (List.mem_of_getElem? (i := 84) rfl)) rfl
theorem mc_67 : mW (yX8_cut, cX8_cut, 3, (some .long), 8, 1, false) ∈ tbg := tbg_mk (tb_6 (List.mem_of_getElem? (i := 88) rfl)) rfl
theorem mc_68 : mW (yX9_fewestTorn, cX9_fewestTorn, 5, (some .int), 9, 1, false) ∈ tbg := tbg_mk (tb_5 (List.mem_of_getElem? (i := 75) rfl)) rfl
theorem mc_69 : mW (yX9_getsOverWithout, cX9_getsOverWithout, 4, (some .boolean), 9, 2, false) ∈ tbg := tbg_mk (tb_5 (List.mem_of_getElem? (i := 80) rfl)) rfl
theorem mc_70 : mW (yX9_bestForgiven, cX9_bestForgiven, 7, (some .int), 9, 0, false) ∈ tbg := tbg_mk (tb_5 (List.mem_of_getElem? (i := 213) rfl)) rfl
theorem mc_71 : mW (yX9_findTorn, cX9_findTorn, 5, (some .int), 9, 1, false) ∈ tbg := tbg_mk (tb_6 (List.mem_of_getElem? (i := 12) rfl)) rfl
theorem mc_72 : mW (yX9_looksLike, cX9_looksLike, 3, (some .boolean), 9, 1, false) ∈ tbg := tbg_mk (tb_6 (List.mem_of_getElem? (i := 17) rfl)) rfl
theorem mc_73 : mW (yX9_tellsMost, cX9_tellsMost, 5, (some .int), 9, 0, false) ∈ tbg := tbg_mk (tb_6 (List.mem_of_getElem? (i := 31) rfl)) rfl
theorem mc_74 : mW (yX9_mostAlike, cX9_mostAlike, 6, (some .int), 9, 1, false) ∈ tbg := tbg_mk (tb_6 (List.mem_of_getElem? (i := 35) rfl)) rfl
theorem mc_75 : mW (yX9_startChance, cX9_startChance, 2, none, 9, 1, false) ∈ tbg := tbg_mk (tb_6 (List.mem_of_getElem? (i := 46) rfl)) rfl
theorem mc_76 : mW (yX9_addDay, cX9_addDay, 3, none, 9, 1, false) ∈ tbg := tbg_mk (tb_6 (List.mem_of_getElem? (i := 50) rfl)) rfl
theorem mc_77 : mW (yX9_stopsIf, cX9_stopsIf, 2, (some .boolean), 9, 1, false) ∈ tbg := tbg_mk (tb_6 (List.mem_of_getElem? (i := 54) rfl)) rfl
theorem mc_78 : mW (yX9_commonPart, cX9_commonPart, 11, (some .long), 9, 2, true) ∈ tbg := tbg_mk (tb_6 (List.mem_of_getElem? (i := 58) rfl)) rfl
theorem mc_79 : mW (yX10_begin, cX10_begin, 2, none, 10, 1, false) ∈ tbg := tbg_mk (tb_3 (List.mem_of_getElem? (i := 239) rfl)) rfl
theorem mc_80 : mW (yX10_breakPlanks, cX10_breakPlanks, 4, none, 10, 0, false) ∈ tbg := tbg_mk (tb_4 (List.mem_of_getElem? (i := 9) rfl)) rfl
theorem mc_81 : mW (yX10_weightOf, cX10_weightOf, 2, (some .int), 10, 1, false) ∈ tbg := tbg_mk (tb_4 (List.mem_of_getElem? (i := 13) rfl)) rfl
theorem mc_82 : mW (yX10_debtOf, cX10_debtOf, 4, (some .int), 10, 1, false) ∈ tbg := tbg_mk (tb_4 (List.mem_of_getElem? (i := 17) rfl)) rfl
theorem mc_83 : mW (yX10_owing, cX10_owing, 4, (some .int), 10, 2, false) ∈ tbg := tbg_mk (tb_4 (List.mem_of_getElem? (i := 21) rfl)) rfl
theorem mc_84 : mW (yX10_knowToday, cX10_knowToday, 2, none, 10, 1, false) ∈ tbg := tbg_mk (tb_4 (List.mem_of_getElem? (i := 25) rfl)) rfl
theorem mc_85 : mW (yX10_papersOf, cX10_papersOf, 4, (some .int), 10, 1, false) ∈ tbg := tbg_mk (tb_4 (List.mem_of_getElem? (i := 29) rfl)) rfl
theorem mc_86 : mW (yX10_owedTo, cX10_owedTo, 4, (some .int), 10, 1, false) ∈ tbg := tbg_mk (tb_4 (List.mem_of_getElem? (i := 33) rfl)) rfl
theorem mc_87 : mW (yX10_firstToBreak, cX10_firstToBreak, 2, (some .int), 10, 0, false) ∈ tbg := tbg_mk (tb_4 (List.mem_of_getElem? (i := 54) rfl)) rfl
theorem mc_88 : mW (yX10_isBroken, cX10_isBroken, 2, (some .boolean), 10, 1, false) ∈ tbg := tbg_mk (tb_4 (List.mem_of_getElem? (i := 58) rfl)) rfl
theorem mc_89 : mW (yX10_loadOf, cX10_loadOf, 6, (some .int), 10, 1, false) ∈ tbg := tbg_mk (tb_4 (List.mem_of_getElem? (i := 62) rfl)) rfl
theorem mc_90 : mW (yX10_isPlank, cX10_isPlank, 2, (some .boolean), 10, 1, false) ∈ tbg := tbg_mk (tb_4 (List.mem_of_getElem? (i := 66) rfl)) rfl
theorem mc_91 : mW (yX10_bearing, cX10_bearing, 2, (some .int), 10, 1, false) ∈ tbg := tbg_mk (tb_4 (List.mem_of_getElem? (i := 70) rfl)) rfl
theorem mc_92 : mW (yX10_isPerson, cX10_isPerson, 2, (some .boolean), 10, 1, false) ∈ tbg := tbg_mk (tb_4 (List.mem_of_getElem? (i := 86) rfl)) rfl
theorem mc_93 : mW (yX10_weighAll, cX10_weighAll, 2, none, 10, 0, false) ∈ tbg := tbg_mk (tb_4 (List.mem_of_getElem? (i := 105) rfl)) rfl
theorem mc_94 : mW (yX10_onPlanksBits, cX10_onPlanksBits, 3, (some .int), 10, 0, false) ∈ tbg := tbg_mk (tb_4 (List.mem_of_getElem? (i := 146) rfl)) rfl
theorem mc_95 : mW (yX10_mayCome, cX10_mayCome, 5, (some .boolean), 10, 4, false) ∈ tbg := tbg_mk (tb_4 (List.mem_of_getElem? (i := 157) rfl)) rfl
theorem mc_96 : mW (yX10_setOwing, cX10_setOwing, 4, none, 10, 3, false) ∈ tbg := tbg_mk (tb_4 (List.mem_of_getElem? (i := 187) rfl)) rfl
theorem mc_97 : mW (yX10_take, cX10_take, 2, none, 10, 1, false) ∈ tbg := tbg_mk (tb_5 (List.mem_of_getElem? (i := 9) rfl)) rfl
theorem mc_98 : mW (yX10_fallenBits, cX10_fallenBits, 1, (some .int), 10, 0, false) ∈ tbg := tbg_mk (tb_5 (List.mem_of_getElem? (i := 29) rfl)) rfl
theorem mc_99 : mW (yX10_bitsAt, cX10_bitsAt, 4, (some .int), 10, 1, false) ∈ tbg := tbg_mk (tb_5 (List.mem_of_getElem? (i := 33) rfl)) rfl
theorem mc_100 : mW (yX10_eastBits, cX10_eastBits, 1, (some .int), 10, 0, false) ∈ tbg := tbg_mk (tb_5 (List.mem_of_getElem? (i := 37) rfl)) rfl
theorem mc_101 : mW (yX10_stopAlone, cX10_stopAlone, 4, (some .int), 10, 1, false) ∈ tbg := tbg_mk (tb_5 (List.mem_of_getElem? (i := 57) rfl)) rfl
theorem mc_102 : mW (yX10_ableBits, cX10_ableBits, 3, (some .int), 10, 0, false) ∈ tbg := tbg_mk (tb_5 (List.mem_of_getElem? (i := 66) rfl)) rfl
theorem mc_103 : mW (yX10_mendsNeeded, cX10_mendsNeeded, 5, (some .int), 10, 2, false) ∈ tbg := tbg_mk (tb_5 (List.mem_of_getElem? (i := 227) rfl)) rfl
theorem mc_104 : mW (yX10_allPapers, cX10_allPapers, 3, (some .int), 10, 0, false) ∈ tbg := tbg_mk (tb_6 (List.mem_of_getElem? (i := 111) rfl)) rfl
theorem mc_105 : mW (yX10_allDebt, cX10_allDebt, 3, (some .int), 10, 0, false) ∈ tbg := tbg_mk (tb_6 (List.mem_of_getElem? (i := 115) rfl)) rfl
theorem mc_106 : mW (yX11_feed, cX11_feed, 6, (some .int), 11, 5, false) ∈ tbg := tbg_mk (tb_2 (List.mem_of_getElem? (i := 209) rfl)) rfl
theorem mc_107 : mW (yX11_feedInt, cX11_feedInt, 3, none, 11, 1, false) ∈ tbg := tbg_mk (tb_2 (List.mem_of_getElem? (i := 213) rfl)) rfl
theorem mc_108 : mW (yX11_bridge, cX11_bridge, 3, (some .int), 11, 1, false) ∈ tbg := tbg_mk (tb_2 (List.mem_of_getElem? (i := 217) rfl)) rfl
theorem mc_109 : mW (yX11_fault, cX11_fault, 2, (some .int), 11, 1, false) ∈ tbg := tbg_mk (tb_4 (List.mem_of_getElem? (i := 78) rfl)) rfl
theorem mc_110 : mW (yX11_person, cX11_person, 3, (some .int), 11, 2, false) ∈ tbg := tbg_mk (tb_4 (List.mem_of_getElem? (i := 82) rfl)) rfl
theorem mc_111 : mW (yX11_owes, cX11_owes, 3, (some .int), 11, 2, false) ∈ tbg := tbg_mk (tb_4 (List.mem_of_getElem? (i := 94) rfl)) rfl
theorem mc_112 : mW (yX11_plank, cX11_plank, 3, (some .int), 11, 2, false) ∈ tbg := tbg_mk (tb_4 (List.mem_of_getElem? (i := 99) rfl)) rfl
theorem mc_113 : mW (yX11_seed, cX11_seed, 3, (some .int), 11, 1, false) ∈ tbg := tbg_mk (tb_4 (List.mem_of_getElem? (i := 111) rfl)) rfl
theorem mc_114 : mW (yX11_step, cX11_step, 4, (some .int), 11, 2, false) ∈ tbg := tbg_mk (tb_4 (List.mem_of_getElem? (i := 127) rfl)) rfl
theorem mc_115 : mW (yX11_ended, cX11_ended, 2, (some .boolean), 11, 1, false) ∈ tbg := tbg_mk (tb_4 (List.mem_of_getElem? (i := 167) rfl)) rfl
theorem mc_116 : mW (yX11_hand, cX11_hand, 4, (some .int), 11, 2, false) ∈ tbg := tbg_mk (tb_4 (List.mem_of_getElem? (i := 171) rfl)) rfl
theorem mc_117 : mW (yX11_tear, cX11_tear, 5, (some .int), 11, 2, false) ∈ tbg := tbg_mk (tb_4 (List.mem_of_getElem? (i := 179) rfl)) rfl
theorem mc_118 : mW (yX11_cancel, cX11_cancel, 4, (some .int), 11, 1, false) ∈ tbg := tbg_mk (tb_4 (List.mem_of_getElem? (i := 191) rfl)) rfl
theorem mc_119 : mW (yX11_trayCode, cX11_trayCode, 2, (some .int), 11, 1, false) ∈ tbg := tbg_mk (tb_4 (List.mem_of_getElem? (i := 195) rfl)) rfl
theorem mc_120 : mW (yX11_isTray, cX11_isTray, 2, (some .boolean), 11, 1, false) ∈ tbg := tbg_mk (tb_4 (List.mem_of_getElem? (i := 199) rfl)) rfl
theorem mc_121 : mW (yX11_mend, cX11_mend, 3, (some .int), 11, 1, false) ∈ tbg := tbg_mk (tb_4 (List.mem_of_getElem? (i := 216) rfl)) rfl
theorem mc_122 : mW (yX11_days, cX11_days, 4, (some .int), 11, 1, false) ∈ tbg := tbg_mk (tb_4 (List.mem_of_getElem? (i := 224) rfl)) rfl
theorem mc_123 : mW (yX11_undo, cX11_undo, 2, (some .int), 11, 1, false) ∈ tbg := tbg_mk (tb_4 (List.mem_of_getElem? (i := 237) rfl)) rfl
theorem mc_124 : mW (yX11_judge, cX11_judge, 5, (some .int), 11, 2, false) ∈ tbg := tbg_mk (tb_5 (List.mem_of_getElem? (i := 5) rfl)) rfl
theorem mc_125 : mW (yX11_perform, cX11_perform, 4, (some .int), 11, 1, false) ∈ tbg := tbg_mk (tb_5 (List.mem_of_getElem? (i := 41) rfl)) rfl
theorem mc_126 : mW (yX11_season, cX11_season, 6, (some .int), 11, 2, false) ∈ tbg := tbg_mk (tb_5 (List.mem_of_getElem? (i := 45) rfl)) rfl
theorem mc_127 : mW (yX11_alone, cX11_alone, 2, (some .int), 11, 1, false) ∈ tbg := tbg_mk (tb_5 (List.mem_of_getElem? (i := 53) rfl)) rfl
theorem mc_128 : mW (yX11_able, cX11_able, 1, (some .int), 11, 0, false) ∈ tbg := tbg_mk (tb_5 (List.mem_of_getElem? (i := 62) rfl)) rfl
theorem mc_129 : mW (yX11_tears, cX11_tears, 4, (some .int), 11, 2, false) ∈ tbg := tbg_mk (tb_5 (List.mem_of_getElem? (i := 71) rfl)) rfl
theorem mc_130 : mW (yX11_row, cX11_row, 4, (some .int), 11, 1, false) ∈ tbg := tbg_mk (tb_5 (List.mem_of_getElem? (i := 88) rfl)) rfl
theorem mc_131 : mW (yX11_order, cX11_order, 4, (some .int), 11, 2, false) ∈ tbg := tbg_mk (tb_5 (List.mem_of_getElem? (i := 116) rfl)) rfl
theorem mc_132 : mW (yX11_isSet, cX11_isSet, 3, (some .boolean), 11, 1, false) ∈ tbg := tbg_mk (tb_5 (List.mem_of_getElem? (i := 120) rfl)) rfl
theorem mc_133 : mW (yX11_orders, cX11_orders, 2, (some .int), 11, 1, false) ∈ tbg := tbg_mk (tb_5 (List.mem_of_getElem? (i := 137) rfl)) rfl
theorem mc_134 : mW (yX11_apart, cX11_apart, 4, (some .int), 11, 2, false) ∈ tbg := tbg_mk (tb_5 (List.mem_of_getElem? (i := 141) rfl)) rfl
theorem mc_135 : mW (yX11_net, cX11_net, 2, (some .int), 11, 1, false) ∈ tbg := tbg_mk (tb_5 (List.mem_of_getElem? (i := 149) rfl)) rfl
theorem mc_136 : mW (yX11_coin, cX11_coin, 1, (some .int), 11, 0, false) ∈ tbg := tbg_mk (tb_5 (List.mem_of_getElem? (i := 160) rfl)) rfl
theorem mc_137 : mW (yX11_settles, cX11_settles, 1, (some .int), 11, 0, false) ∈ tbg := tbg_mk (tb_5 (List.mem_of_getElem? (i := 170) rfl)) rfl
theorem mc_138 : mW (yX11_rings, cX11_rings, 1, (some .int), 11, 0, false) ∈ tbg := tbg_mk (tb_5 (List.mem_of_getElem? (i := 182) rfl)) rfl
theorem mc_139 : mW (yX11_ring, cX11_ring, 3, (some .int), 11, 1, false) ∈ tbg := tbg_mk (tb_5 (List.mem_of_getElem? (i := 201) rfl)) rfl
theorem mc_140 : mW (yX11_heaviest, cX11_heaviest, 3, (some .int), 11, 0, false) ∈ tbg := tbg_mk (tb_5 (List.mem_of_getElem? (i := 205) rfl)) rfl
theorem mc_141 : mW (yX11_forgive, cX11_forgive, 1, (some .int), 11, 0, false) ∈ tbg := tbg_mk (tb_5 (List.mem_of_getElem? (i := 209) rfl)) rfl
theorem mc_142 : mW (yX11_mends, cX11_mends, 2, (some .int), 11, 1, false) ∈ tbg := tbg_mk (tb_5 (List.mem_of_getElem? (i := 219) rfl)) rfl
theorem mc_143 : mW (yX11_canBeMendedFor, cX11_canBeMendedFor, 3, (some .boolean), 11, 1, false) ∈ tbg := tbg_mk (tb_5 (List.mem_of_getElem? (i := 223) rfl)) rfl
theorem mc_144 : mW (yX11_mendsOver, cX11_mendsOver, 6, (some .int), 11, 1, false) ∈ tbg := tbg_mk (tb_5 (List.mem_of_getElem? (i := 231) rfl)) rfl
theorem mc_145 : mW (yX11_mendsAt, cX11_mendsAt, 3, (some .int), 11, 2, false) ∈ tbg := tbg_mk (tb_5 (List.mem_of_getElem? (i := 236) rfl)) rfl
theorem mc_146 : mW (yX11_mendsAll, cX11_mendsAll, 2, (some .int), 11, 0, false) ∈ tbg := tbg_mk (tb_6 (List.mem_of_getElem? (i := 0) rfl)) rfl
theorem mc_147 : mW (yX11_torn, cX11_torn, 3, (some .int), 11, 1, false) ∈ tbg := tbg_mk (tb_6 (List.mem_of_getElem? (i := 4) rfl)) rfl
theorem mc_148 : mW (yX11_seenCode, cX11_seenCode, 3, (some .int), 11, 1, false) ∈ tbg := tbg_mk (tb_6 (List.mem_of_getElem? (i := 8) rfl)) rfl
theorem mc_149 : mW (yX11_tornAt, cX11_tornAt, 4, (some .int), 11, 2, false) ∈ tbg := tbg_mk (tb_6 (List.mem_of_getElem? (i := 23) rfl)) rfl
theorem mc_150 : mW (yX11_weighed, cX11_weighed, 3, (some .int), 11, 1, false) ∈ tbg := tbg_mk (tb_6 (List.mem_of_getElem? (i := 27) rfl)) rfl
theorem mc_151 : mW (yX11_chance, cX11_chance, 8, (some .long), 11, 3, false) ∈ tbg := tbg_mk (tb_6 (List.mem_of_getElem? (i := 40) rfl)) rfl
theorem mc_152 : mW (yX11_likely, cX11_likely, 4, (some .int), 11, 2, false) ∈ tbg := tbg_mk (tb_6 (List.mem_of_getElem? (i := 63) rfl)) rfl
theorem mc_153 : mW (yX11_numbers, cX11_numbers, 4, (some .int), 11, 3, false) ∈ tbg := tbg_mk (tb_6 (List.mem_of_getElem? (i := 68) rfl)) rfl
theorem mc_154 : mW (yX11_write, cX11_write, 6, (some .long), 11, 3, false) ∈ tbg := tbg_mk (tb_6 (List.mem_of_getElem? (i := 79) rfl)) rfl
theorem mc_155 : mW (yX11_lists, cX11_lists, 5, (some .int), 11, 1, false) ∈ tbg := tbg_mk (tb_6 (List.mem_of_getElem? (i := 93) rfl)) rfl
theorem mc_156 : mW (yX11_image, cX11_image, 2, (some .int), 11, 1, false) ∈ tbg := tbg_mk (tb_6 (List.mem_of_getElem? (i := 98) rfl)) rfl
theorem mc_157 : mW (yX11_restore, cX11_restore, 2, (some .int), 11, 1, false) ∈ tbg := tbg_mk (tb_6 (List.mem_of_getElem? (i := 102) rfl)) rfl
theorem mc_158 : mW (yX11_count, cX11_count, 2, (some .int), 11, 1, false) ∈ tbg := tbg_mk (tb_6 (List.mem_of_getElem? (i := 106) rfl)) rfl
theorem mc_159 : mW (yX12_plain, cX12_plain, 2, none, 12, 1, true) ∈ tbg := tbg_mk (tb_6 (List.mem_of_getElem? (i := 124) rfl)) rfl
theorem mc_160 : mW (yX12_feed, cX12_feed, 8, (some .int), 12, 5, false) ∈ tbg := tbg_mk (tb_6 (List.mem_of_getElem? (i := 228) rfl)) rfl
theorem mc_161 : mW (yX12_bridge, cX12_bridge, 4, (some .int), 12, 1, false) ∈ tbg := tbg_mk (tb_6 (List.mem_of_getElem? (i := 232) rfl)) rfl
theorem mc_162 : mW (yX12_within, cX12_within, 6, (some .boolean), 12, 3, true) ∈ tbg := tbg_mk (tb_6 (List.mem_of_getElem? (i := 235) rfl)) rfl
theorem mc_163 : mW (yX12_next, cX12_next, 2, none, 12, 0, false) ∈ tbg := tbg_mk (tb_6 (List.mem_of_getElem? (i := 239) rfl)) rfl
theorem mc_164 : mW (yX12_see, cX12_see, 2, (some .int), 12, 1, false) ∈ tbg := tbg_mk (tb_7 (List.mem_of_getElem? (i := 3) rfl)) rfl
theorem mc_165 : mW (yX12_isSmall, cX12_isSmall, 1, (some .boolean), 12, 1, true) ∈ tbg := tbg_mk (tb_7 (List.mem_of_getElem? (i := 6) rfl)) rfl
theorem mc_166 : mW (yX12_keyAt, cX12_keyAt, 4, (some .int), 12, 0, false) ∈ tbg := tbg_mk (tb_7 (List.mem_of_getElem? (i := 10) rfl)) rfl
theorem mc_167 : mW (yX12_isDigit, cX12_isDigit, 1, (some .boolean), 12, 1, true) ∈ tbg := tbg_mk (tb_7 (List.mem_of_getElem? (i := 16) rfl)) rfl
theorem mc_168 : mW (yX12_eats, cX12_eats, 2, (some .boolean), 12, 1, false) ∈ tbg := tbg_mk (tb_7 (List.mem_of_getElem? (i := 21) rfl)) rfl
theorem mc_169 : mW (yX12_is, cX12_is, 2, (some .boolean), 12, 1, false) ∈ tbg := tbg_mk (tb_7 (List.mem_of_getElem? (i := 25) rfl)) rfl
theorem mc_170 : mW (yX12_fails, cX12_fails, 2, none, 12, 1, false) ∈ tbg := tbg_mk (tb_7 (List.mem_of_getElem? (i := 29) rfl)) rfl
theorem mc_171 : mW (yX12_takes, cX12_takes, 4, (some .int), 12, 2, false) ∈ tbg := tbg_mk (tb_7 (List.mem_of_getElem? (i := 33) rfl)) rfl
theorem mc_172 : mW (yX12_ends, cX12_ends, 1, none, 12, 0, false) ∈ tbg := tbg_mk (tb_7 (List.mem_of_getElem? (i := 37) rfl)) rfl
theorem mc_173 : mW (yX12_readLine, cX12_readLine, 1, none, 12, 0, false) ∈ tbg := tbg_mk (tb_7 (List.mem_of_getElem? (i := 41) rfl)) rfl
theorem mc_174 : mW (yX12_readPlank, cX12_readPlank, 3, none, 12, 0, false) ∈ tbg := tbg_mk (tb_7 (List.mem_of_getElem? (i := 45) rfl)) rfl
theorem mc_175 : mW (yX12_readPerson, cX12_readPerson, 2, none, 12, 0, false) ∈ tbg := tbg_mk (tb_7 (List.mem_of_getElem? (i := 49) rfl)) rfl
theorem mc_176 : mW (yX12_readPaper, cX12_readPaper, 4, none, 12, 0, false) ∈ tbg := tbg_mk (tb_7 (List.mem_of_getElem? (i := 53) rfl)) rfl
theorem mc_177 : mW (yX12_readLaw, cX12_readLaw, 3, none, 12, 1, false) ∈ tbg := tbg_mk (tb_7 (List.mem_of_getElem? (i := 57) rfl)) rfl
theorem mc_178 : mW (yX12_readSum, cX12_readSum, 3, none, 12, 1, false) ∈ tbg := tbg_mk (tb_7 (List.mem_of_getElem? (i := 61) rfl)) rfl
theorem mc_179 : mW (yX12_readTerm, cX12_readTerm, 2, none, 12, 1, false) ∈ tbg := tbg_mk (tb_7 (List.mem_of_getElem? (i := 65) rfl)) rfl
theorem mc_180 : mW (yX12_readAtom, cX12_readAtom, 2, none, 12, 1, false) ∈ tbg := tbg_mk (tb_7 (List.mem_of_getElem? (i := 69) rfl)) rfl
theorem mc_181 : mW (yX12_codes, cX12_codes, 2, none, 12, 1, false) ∈ tbg := tbg_mk (tb_7 (List.mem_of_getElem? (i := 73) rfl)) rfl
theorem mc_182 : mW (yX12_wordOf, cX12_wordOf, 2, (some .int), 12, 1, false) ∈ tbg := tbg_mk (tb_7 (List.mem_of_getElem? (i := 77) rfl)) rfl
theorem mc_183 : mW (yX12_goesIn, cX12_goesIn, 2, (some .boolean), 12, 1, false) ∈ tbg := tbg_mk (tb_7 (List.mem_of_getElem? (i := 81) rfl)) rfl
theorem mc_184 : mW (yX12_readTruth, cX12_readTruth, 2, none, 12, 1, false) ∈ tbg := tbg_mk (tb_7 (List.mem_of_getElem? (i := 85) rfl)) rfl
theorem mc_185 : mW (yX12_readBoth, cX12_readBoth, 2, none, 12, 1, false) ∈ tbg := tbg_mk (tb_7 (List.mem_of_getElem? (i := 89) rfl)) rfl
theorem mc_186 : mW (yX12_readUnit, cX12_readUnit, 3, none, 12, 1, false) ∈ tbg := tbg_mk (tb_7 (List.mem_of_getElem? (i := 93) rfl)) rfl
theorem mc_187 : mW (yX12_breaks, cX12_breaks, 3, none, 12, 0, false) ∈ tbg := tbg_mk (tb_7 (List.mem_of_getElem? (i := 97) rfl)) rfl
theorem mc_188 : mW (yX12_laysNow, cX12_laysNow, 2, none, 12, 0, false) ∈ tbg := tbg_mk (tb_7 (List.mem_of_getElem? (i := 101) rfl)) rfl
theorem mc_189 : mW (yX12_isOn, cX12_isOn, 2, (some .boolean), 12, 1, false) ∈ tbg := tbg_mk (tb_7 (List.mem_of_getElem? (i := 105) rfl)) rfl
theorem mc_190 : mW (yX12_weightOf, cX12_weightOf, 3, (some .int), 12, 1, false) ∈ tbg := tbg_mk (tb_7 (List.mem_of_getElem? (i := 109) rfl)) rfl
theorem mc_191 : mW (yX12_debtOf, cX12_debtOf, 4, (some .int), 12, 1, false) ∈ tbg := tbg_mk (tb_7 (List.mem_of_getElem? (i := 113) rfl)) rfl
theorem mc_192 : mW (yX12_debt, cX12_debt, 3, (some .int), 12, 2, false) ∈ tbg := tbg_mk (tb_7 (List.mem_of_getElem? (i := 117) rfl)) rfl
theorem mc_193 : mW (yX12_papersOf, cX12_papersOf, 4, (some .int), 12, 1, false) ∈ tbg := tbg_mk (tb_7 (List.mem_of_getElem? (i := 121) rfl)) rfl
theorem mc_194 : mW (yX12_owedTo, cX12_owedTo, 4, (some .int), 12, 1, false) ∈ tbg := tbg_mk (tb_7 (List.mem_of_getElem? (i := 125) rfl)) rfl
theorem mc_195 : mW (yX12_reckons, cX12_reckons, 6, (some .int), 12, 2, false) ∈ tbg := tbg_mk (tb_7 (List.mem_of_getElem? (i := 129) rfl)) rfl
theorem mc_196 : mW (yX12_between, cX12_between, 5, (some .int), 12, 3, true) ∈ tbg := tbg_mk (tb_7 (List.mem_of_getElem? (i := 132) rfl)) rfl
theorem mc_197 : mW (yX12_firstOver, cX12_firstOver, 2, (some .int), 12, 0, false) ∈ tbg := tbg_mk (tb_7 (List.mem_of_getElem? (i := 138) rfl)) rfl
theorem mc_198 : mW (yX12_isIn, cX12_isIn, 3, (some .boolean), 12, 2, true) ∈ tbg := tbg_mk (tb_7 (List.mem_of_getElem? (i := 141) rfl)) rfl
theorem mc_199 : mW (yX12_loadOf, cX12_loadOf, 2, (some .int), 12, 1, false) ∈ tbg := tbg_mk (tb_7 (List.mem_of_getElem? (i := 145) rfl)) rfl
theorem mc_200 : mW (yX12_bearsOf, cX12_bearsOf, 2, (some .int), 12, 1, false) ∈ tbg := tbg_mk (tb_7 (List.mem_of_getElem? (i := 149) rfl)) rfl
theorem mc_201 : mW (yX12_fault, cX12_fault, 2, (some .int), 12, 1, false) ∈ tbg := tbg_mk (tb_7 (List.mem_of_getElem? (i := 153) rfl)) rfl
theorem mc_202 : mW (yX12_person, cX12_person, 3, (some .int), 12, 2, false) ∈ tbg := tbg_mk (tb_7 (List.mem_of_getElem? (i := 157) rfl)) rfl
theorem mc_203 : mW (yX12_isPerson, cX12_isPerson, 3, (some .boolean), 12, 1, false) ∈ tbg := tbg_mk (tb_7 (List.mem_of_getElem? (i := 161) rfl)) rfl
theorem mc_204 : mW (yX12_owes, cX12_owes, 3, (some .int), 12, 2, false) ∈ tbg := tbg_mk (tb_7 (List.mem_of_getElem? (i := 165) rfl)) rfl
theorem mc_205 : mW (yX12_plank, cX12_plank, 3, (some .int), 12, 2, false) ∈ tbg := tbg_mk (tb_7 (List.mem_of_getElem? (i := 169) rfl)) rfl
theorem mc_206 : mW (yX12_isPlank, cX12_isPlank, 3, (some .boolean), 12, 1, false) ∈ tbg := tbg_mk (tb_7 (List.mem_of_getElem? (i := 173) rfl)) rfl
theorem mc_207 : mW (yX12_seed, cX12_seed, 2, (some .int), 12, 1, false) ∈ tbg := tbg_mk (tb_7 (List.mem_of_getElem? (i := 177) rfl)) rfl
theorem mc_208 : mW (yX12_keeps, cX12_keeps, 2, none, 12, 0, false) ∈ tbg := tbg_mk (tb_7 (List.mem_of_getElem? (i := 181) rfl)) rfl
theorem mc_209 : mW (yX12_notes, cX12_notes, 2, none, 12, 0, false) ∈ tbg := tbg_mk (tb_7 (List.mem_of_getElem? (i := 185) rfl)) rfl
theorem mc_210 : mW (yX12_step, cX12_step, 5, (some .int), 12, 2, false) ∈ tbg := tbg_mk (tb_7 (List.mem_of_getElem? (i := 189) rfl)) rfl
theorem mc_211 : mW (yX12_whyStep, cX12_whyStep, 6, (some .int), 12, 2, false) ∈ tbg := tbg_mk (tb_7 (List.mem_of_getElem? (i := 193) rfl)) rfl
theorem mc_212 : mW (yX12_isFallen, cX12_isFallen, 2, (some .boolean), 12, 1, false) ∈ tbg := tbg_mk (tb_7 (List.mem_of_getElem? (i := 197) rfl)) rfl
theorem mc_213 : mW (yX12_isPlankBroken, cX12_isPlankBroken, 2, (some .boolean), 12, 1, false) ∈ tbg := tbg_mk (tb_7 (List.mem_of_getElem? (i := 201) rfl)) rfl
theorem mc_214 : mW (yX12_mayGo, cX12_mayGo, 3, (some .boolean), 12, 2, false) ∈ tbg := tbg_mk (tb_7 (List.mem_of_getElem? (i := 205) rfl)) rfl
theorem mc_215 : mW (yX12_othersOn, cX12_othersOn, 4, (some .int), 12, 1, false) ∈ tbg := tbg_mk (tb_7 (List.mem_of_getElem? (i := 209) rfl)) rfl
theorem mc_216 : mW (yX12_mayCome, cX12_mayCome, 5, (some .boolean), 12, 3, false) ∈ tbg := tbg_mk (tb_7 (List.mem_of_getElem? (i := 213) rfl)) rfl
theorem mc_217 : mW (yX12_isTied, cX12_isTied, 3, (some .boolean), 12, 1, false) ∈ tbg := tbg_mk (tb_7 (List.mem_of_getElem? (i := 217) rfl)) rfl
theorem mc_218 : mW (yX12_goes, cX12_goes, 3, none, 12, 2, false) ∈ tbg := tbg_mk (tb_7 (List.mem_of_getElem? (i := 221) rfl)) rfl
theorem mc_219 : mW (yX12_hand, cX12_hand, 4, (some .int), 12, 2, false) ∈ tbg := tbg_mk (tb_7 (List.mem_of_getElem? (i := 225) rfl)) rfl
theorem mc_220 : mW (yX12_whyHand, cX12_whyHand, 8, (some .int), 12, 2, false) ∈ tbg := tbg_mk (tb_7 (List.mem_of_getElem? (i := 229) rfl)) rfl
theorem mc_221 : mW (yX12_areTwo, cX12_areTwo, 5, (some .boolean), 12, 2, false) ∈ tbg := tbg_mk (tb_7 (List.mem_of_getElem? (i := 233) rfl)) rfl
theorem mc_222 : mW (yX12_goesBoth, cX12_goesBoth, 3, none, 12, 2, false) ∈ tbg := tbg_mk (tb_7 (List.mem_of_getElem? (i := 237) rfl)) rfl
theorem mc_223 : mW (yX12_tear, cX12_tear, 5, (some .int), 12, 2, false) ∈ tbg := tbg_mk (tb_8 (List.mem_of_getElem? (i := 1) rfl)) rfl
theorem mc_224 : mW (yX12_whyTear, cX12_whyTear, 5, (some .int), 12, 2, false) ∈ tbg := tbg_mk (tb_8 (List.mem_of_getElem? (i := 5) rfl)) rfl
theorem mc_225 : mW (yX12_tears1, cX12_tears1, 3, none, 12, 2, false) ∈ tbg := tbg_mk (tb_8 (List.mem_of_getElem? (i := 9) rfl)) rfl
theorem mc_226 : mW (yX12_cancel, cX12_cancel, 5, (some .int), 12, 1, false) ∈ tbg := tbg_mk (tb_8 (List.mem_of_getElem? (i := 13) rfl)) rfl
theorem mc_227 : mW (yX12_noTray, cX12_noTray, 2, (some .int), 12, 1, false) ∈ tbg := tbg_mk (tb_8 (List.mem_of_getElem? (i := 17) rfl)) rfl
theorem mc_228 : mW (yX12_laysPeople, cX12_laysPeople, 6, (some .boolean), 12, 1, false) ∈ tbg := tbg_mk (tb_8 (List.mem_of_getElem? (i := 24) rfl)) rfl
theorem mc_229 : mW (yX12_leastOf, cX12_leastOf, 4, (some .int), 12, 0, false) ∈ tbg := tbg_mk (tb_8 (List.mem_of_getElem? (i := 28) rfl)) rfl
theorem mc_230 : mW (yX12_mend, cX12_mend, 3, (some .int), 12, 1, false) ∈ tbg := tbg_mk (tb_8 (List.mem_of_getElem? (i := 33) rfl)) rfl
theorem mc_231 : mW (yX12_whyMend, cX12_whyMend, 3, (some .int), 12, 1, false) ∈ tbg := tbg_mk (tb_8 (List.mem_of_getElem? (i := 37) rfl)) rfl
theorem mc_232 : mW (yX12_mends1, cX12_mends1, 2, none, 12, 1, false) ∈ tbg := tbg_mk (tb_8 (List.mem_of_getElem? (i := 41) rfl)) rfl
theorem mc_233 : mW (yX12_days, cX12_days, 4, (some .int), 12, 1, false) ∈ tbg := tbg_mk (tb_8 (List.mem_of_getElem? (i := 45) rfl)) rfl
theorem mc_234 : mW (yX12_goesDay, cX12_goesDay, 1, (some .int), 12, 0, false) ∈ tbg := tbg_mk (tb_8 (List.mem_of_getElem? (i := 50) rfl)) rfl
theorem mc_235 : mW (yX12_draw, cX12_draw, 2, (some .int), 12, 1, false) ∈ tbg := tbg_mk (tb_8 (List.mem_of_getElem? (i := 54) rfl)) rfl
theorem mc_236 : mW (yX12_undo, cX12_undo, 3, (some .int), 12, 1, false) ∈ tbg := tbg_mk (tb_8 (List.mem_of_getElem? (i := 59) rfl)) rfl
theorem mc_237 : mW (yX12_judge, cX12_judge, 7, (some .int), 12, 2, false) ∈ tbg := tbg_mk (tb_8 (List.mem_of_getElem? (i := 64) rfl)) rfl
theorem mc_238 : mW (yX12_tells, cX12_tells, 3, (some .int), 12, 1, false) ∈ tbg := tbg_mk (tb_8 (List.mem_of_getElem? (i := 68) rfl)) rfl
theorem mc_239 : mW (yX12_whyNot, cX12_whyNot, 3, (some .int), 12, 1, false) ∈ tbg := tbg_mk (tb_8 (List.mem_of_getElem? (i := 72) rfl)) rfl
theorem mc_240 : mW (yX12_does, cX12_does, 2, none, 12, 1, false) ∈ tbg := tbg_mk (tb_8 (List.mem_of_getElem? (i := 85) rfl)) rfl
theorem mc_241 : mW (yX12_fallen, cX12_fallen, 3, (some .int), 12, 0, false) ∈ tbg := tbg_mk (tb_8 (List.mem_of_getElem? (i := 89) rfl)) rfl
theorem mc_242 : mW (yX12_onEast, cX12_onEast, 3, (some .int), 12, 0, false) ∈ tbg := tbg_mk (tb_8 (List.mem_of_getElem? (i := 93) rfl)) rfl
theorem mc_243 : mW (yX12_isAgain, cX12_isAgain, 2, none, 12, 0, false) ∈ tbg := tbg_mk (tb_8 (List.mem_of_getElem? (i := 97) rfl)) rfl
theorem mc_244 : mW (yX12_perform, cX12_perform, 4, (some .int), 12, 1, false) ∈ tbg := tbg_mk (tb_8 (List.mem_of_getElem? (i := 101) rfl)) rfl
theorem mc_245 : mW (yX12_season, cX12_season, 6, (some .int), 12, 2, false) ∈ tbg := tbg_mk (tb_8 (List.mem_of_getElem? (i := 105) rfl)) rfl
theorem mc_246 : mW (yX12_drawn, cX12_drawn, 3, (some .int), 12, 0, false) ∈ tbg := tbg_mk (tb_8 (List.mem_of_getElem? (i := 110) rfl)) rfl
theorem mc_247 : mW (yX12_alone, cX12_alone, 2, (some .int), 12, 1, false) ∈ tbg := tbg_mk (tb_8 (List.mem_of_getElem? (i := 114) rfl)) rfl
theorem mc_248 : mW (yX12_stops, cX12_stops, 5, (some .int), 12, 1, false) ∈ tbg := tbg_mk (tb_8 (List.mem_of_getElem? (i := 118) rfl)) rfl
theorem mc_249 : mW (yX12_laysNone, cX12_laysNone, 2, none, 12, 0, false) ∈ tbg := tbg_mk (tb_8 (List.mem_of_getElem? (i := 122) rfl)) rfl
theorem mc_250 : mW (yX12_able, cX12_able, 1, (some .int), 12, 0, false) ∈ tbg := tbg_mk (tb_8 (List.mem_of_getElem? (i := 126) rfl)) rfl
theorem mc_251 : mW (yX12_ableSet, cX12_ableSet, 3, (some .int), 12, 0, false) ∈ tbg := tbg_mk (tb_8 (List.mem_of_getElem? (i := 130) rfl)) rfl
theorem mc_252 : mW (yX12_tears, cX12_tears, 7, (some .int), 12, 2, false) ∈ tbg := tbg_mk (tb_8 (List.mem_of_getElem? (i := 134) rfl)) rfl
theorem mc_253 : mW (yX12_bitsOf, cX12_bitsOf, 3, (some .int), 12, 1, true) ∈ tbg := tbg_mk (tb_8 (List.mem_of_getElem? (i := 137) rfl)) rfl
theorem mc_254 : mW (yX12_row, cX12_row, 3, (some .int), 12, 1, false) ∈ tbg := tbg_mk (tb_8 (List.mem_of_getElem? (i := 141) rfl)) rfl
theorem mc_255 : mW (yX12_stopsRow, cX12_stopsRow, 8, (some .int), 12, 1, false) ∈ tbg := tbg_mk (tb_8 (List.mem_of_getElem? (i := 145) rfl)) rfl
theorem mc_256 : mW (yX12_order, cX12_order, 3, (some .int), 12, 2, false) ∈ tbg := tbg_mk (tb_8 (List.mem_of_getElem? (i := 149) rfl)) rfl
theorem mc_257 : mW (yX12_isSet, cX12_isSet, 2, (some .boolean), 12, 1, false) ∈ tbg := tbg_mk (tb_8 (List.mem_of_getElem? (i := 153) rfl)) rfl
theorem mc_258 : mW (yX12_laysRows, cX12_laysRows, 2, none, 12, 1, false) ∈ tbg := tbg_mk (tb_8 (List.mem_of_getElem? (i := 157) rfl)) rfl
theorem mc_259 : mW (yX12_goesRows, cX12_goesRows, 3, none, 12, 1, false) ∈ tbg := tbg_mk (tb_8 (List.mem_of_getElem? (i := 161) rfl)) rfl
theorem mc_260 : mW (yX12_orders, cX12_orders, 2, (some .int), 12, 1, false) ∈ tbg := tbg_mk (tb_8 (List.mem_of_getElem? (i := 165) rfl)) rfl
theorem mc_261 : mW (yX12_apart, cX12_apart, 4, (some .int), 12, 2, false) ∈ tbg := tbg_mk (tb_8 (List.mem_of_getElem? (i := 169) rfl)) rfl
theorem mc_262 : mW (yX12_net, cX12_net, 2, (some .int), 12, 1, false) ∈ tbg := tbg_mk (tb_8 (List.mem_of_getElem? (i := 173) rfl)) rfl
theorem mc_263 : mW (yX12_netOf, cX12_netOf, 2, (some .int), 12, 1, false) ∈ tbg := tbg_mk (tb_8 (List.mem_of_getElem? (i := 177) rfl)) rfl
theorem mc_264 : mW (yX12_coin, cX12_coin, 3, (some .int), 12, 0, false) ∈ tbg := tbg_mk (tb_8 (List.mem_of_getElem? (i := 182) rfl)) rfl
theorem mc_265 : mW (yX12_settles, cX12_settles, 3, (some .int), 12, 0, false) ∈ tbg := tbg_mk (tb_8 (List.mem_of_getElem? (i := 186) rfl)) rfl
theorem mc_266 : mW (yX12_groups, cX12_groups, 5, (some .int), 12, 1, false) ∈ tbg := tbg_mk (tb_8 (List.mem_of_getElem? (i := 190) rfl)) rfl
theorem mc_267 : mW (yX12_sumOf, cX12_sumOf, 4, (some .int), 12, 1, false) ∈ tbg := tbg_mk (tb_8 (List.mem_of_getElem? (i := 194) rfl)) rfl
theorem mc_268 : mW (yX12_rings, cX12_rings, 1, (some .int), 12, 0, false) ∈ tbg := tbg_mk (tb_8 (List.mem_of_getElem? (i := 198) rfl)) rfl
theorem mc_269 : mW (yX12_laysRings, cX12_laysRings, 2, none, 12, 0, false) ∈ tbg := tbg_mk (tb_8 (List.mem_of_getElem? (i := 202) rfl)) rfl
theorem mc_270 : mW (yX12_goesRing, cX12_goesRing, 5, none, 12, 1, false) ∈ tbg := tbg_mk (tb_8 (List.mem_of_getElem? (i := 206) rfl)) rfl
theorem mc_271 : mW (yX12_laysRing, cX12_laysRing, 3, none, 12, 0, false) ∈ tbg := tbg_mk (tb_8 (List.mem_of_getElem? (i := 210) rfl)) rfl
theorem mc_272 : mW (yX12_ring, cX12_ring, 2, (some .int), 12, 1, false) ∈ tbg := tbg_mk (tb_8 (List.mem_of_getElem? (i := 214) rfl)) rfl
theorem mc_273 : mW (yX12_heaviest, cX12_heaviest, 3, (some .int), 12, 0, false) ∈ tbg := tbg_mk (tb_8 (List.mem_of_getElem? (i := 219) rfl)) rfl
theorem mc_274 : mW (yX12_forgive, cX12_forgive, 6, (some .int), 12, 0, false) ∈ tbg := tbg_mk (tb_8 (List.mem_of_getElem? (i := 223) rfl)) rfl
theorem mc_275 : mW (yX12_mends, cX12_mends, 2, (some .int), 12, 1, false) ∈ tbg := tbg_mk (tb_8 (List.mem_of_getElem? (i := 227) rfl)) rfl
theorem mc_276 : mW (yX12_needsAll, cX12_needsAll, 4, (some .int), 12, 1, false) ∈ tbg := tbg_mk (tb_8 (List.mem_of_getElem? (i := 231) rfl)) rfl
theorem mc_277 : mW (yX12_needs, cX12_needs, 5, (some .int), 12, 2, false) ∈ tbg := tbg_mk (tb_8 (List.mem_of_getElem? (i := 235) rfl)) rfl
theorem mc_278 : mW (yX12_mendsAt, cX12_mendsAt, 3, (some .int), 12, 2, false) ∈ tbg := tbg_mk (tb_8 (List.mem_of_getElem? (i := 239) rfl)) rfl
theorem mc_279 : mW (yX12_mendsAll, cX12_mendsAll, 5, (some .int), 12, 0, false) ∈ tbg := tbg_mk (tb_9 (List.mem_of_getElem? (i := 3) rfl)) rfl
theorem mc_280 : mW (yX12_torn, cX12_torn, 5, (some .int), 12, 1, false) ∈ tbg := tbg_mk (tb_9 (List.mem_of_getElem? (i := 7) rfl)) rfl
theorem mc_281 : mW (yX12_noSeen, cX12_noSeen, 3, (some .int), 12, 1, false) ∈ tbg := tbg_mk (tb_9 (List.mem_of_getElem? (i := 11) rfl)) rfl
theorem mc_282 : mW (yX12_fits, cX12_fits, 8, (some .boolean), 12, 2, false) ∈ tbg := tbg_mk (tb_9 (List.mem_of_getElem? (i := 15) rfl)) rfl
theorem mc_283 : mW (yX12_tornAt, cX12_tornAt, 6, (some .int), 12, 2, false) ∈ tbg := tbg_mk (tb_9 (List.mem_of_getElem? (i := 19) rfl)) rfl
theorem mc_284 : mW (yX12_weighed, cX12_weighed, 12, (some .int), 12, 1, false) ∈ tbg := tbg_mk (tb_9 (List.mem_of_getElem? (i := 23) rfl)) rfl
theorem mc_285 : mW (yX12_chance, cX12_chance, 8, (some .long), 12, 3, false) ∈ tbg := tbg_mk (tb_9 (List.mem_of_getElem? (i := 27) rfl)) rfl
theorem mc_286 : mW (yX12_chanceOf, cX12_chanceOf, 9, (some .long), 12, 2, false) ∈ tbg := tbg_mk (tb_9 (List.mem_of_getElem? (i := 33) rfl)) rfl
theorem mc_287 : mW (yX12_tens, cX12_tens, 4, (some .long), 12, 1, true) ∈ tbg := tbg_mk (tb_9 (List.mem_of_getElem? (i := 36) rfl)) rfl
theorem mc_288 : mW (yX12_common, cX12_common, 4, (some .long), 12, 2, true) ∈ tbg := tbg_mk (tb_9 (List.mem_of_getElem? (i := 39) rfl)) rfl
theorem mc_289 : mW (yX12_likely, cX12_likely, 4, (some .int), 12, 2, false) ∈ tbg := tbg_mk (tb_9 (List.mem_of_getElem? (i := 43) rfl)) rfl
theorem mc_290 : mW (yX12_numbers, cX12_numbers, 5, (some .int), 12, 3, false) ∈ tbg := tbg_mk (tb_9 (List.mem_of_getElem? (i := 47) rfl)) rfl
theorem mc_291 : mW (yX12_write, cX12_write, 6, (some .long), 12, 3, false) ∈ tbg := tbg_mk (tb_9 (List.mem_of_getElem? (i := 51) rfl)) rfl
theorem mc_292 : mW (yX12_cut, cX12_cut, 3, (some .long), 12, 2, true) ∈ tbg := tbg_mk (tb_9 (List.mem_of_getElem? (i := 55) rfl)) rfl
theorem mc_293 : mW (yX12_lists, cX12_lists, 5, (some .int), 12, 1, false) ∈ tbg := tbg_mk (tb_9 (List.mem_of_getElem? (i := 59) rfl)) rfl
theorem mc_294 : mW (yX12_image, cX12_image, 3, (some .int), 12, 1, false) ∈ tbg := tbg_mk (tb_9 (List.mem_of_getElem? (i := 63) rfl)) rfl
theorem mc_295 : mW (yX12_restore, cX12_restore, 3, (some .int), 12, 1, false) ∈ tbg := tbg_mk (tb_9 (List.mem_of_getElem? (i := 67) rfl)) rfl
theorem mc_296 : mW (yX12_count, cX12_count, 2, (some .int), 12, 1, false) ∈ tbg := tbg_mk (tb_9 (List.mem_of_getElem? (i := 71) rfl)) rfl
theorem mc_297 : mW (yX12_onPlanks, cX12_onPlanks, 3, (some .int), 12, 0, false) ∈ tbg := tbg_mk (tb_9 (List.mem_of_getElem? (i := 75) rfl)) rfl
theorem mc_298 : mW (yX12_papersAll, cX12_papersAll, 3, (some .int), 12, 0, false) ∈ tbg := tbg_mk (tb_9 (List.mem_of_getElem? (i := 79) rfl)) rfl
theorem mc_299 : mW (yX12_debtAll, cX12_debtAll, 3, (some .int), 12, 0, false) ∈ tbg := tbg_mk (tb_9 (List.mem_of_getElem? (i := 83) rfl)) rfl
theorem mc_300 : mW (yJ7_fill_53178, cJ7_fill_53178, 4, none, 15, 2, true) ∈ tbg := tbg_mk (tb_3 (List.mem_of_getElem? (i := 120) rfl)) rfl
theorem mc_301 : mW (yJ6_bitCount_0f7a4, cJ6_bitCount_0f7a4, 1, (some .int), 13, 1, true) ∈ tbg := tbg_mk (tb_4 (List.mem_of_getElem? (i := 149) rfl)) rfl
theorem mc_302 : mW (yJ7_fill_d0a16, cJ7_fill_d0a16, 5, none, 15, 2, true) ∈ tbg := tbg_mk (tb_6 (List.mem_of_getElem? (i := 75) rfl)) rfl
theorem mc_303 : mW (yJ0_length_8abf5, cJ0_length_8abf5, 1, (some .int), 16, 0, false) ∈ tbg := tbg_mk (tb_3 (List.mem_of_getElem? (i := 10) rfl)) rfl
theorem mc_304 : mW (yJ0_coder_7d493, cJ0_coder_7d493, 1, (some .byte), 16, 0, false) ∈ tbg := tbg_mk (tb_3 (List.mem_of_getElem? (i := 14) rfl)) rfl
theorem mc_305 : mW (yJ0_isLatin1_aae02, cJ0_isLatin1_aae02, 1, (some .boolean), 16, 0, false) ∈ tbg := tbg_mk (tb_3 (List.mem_of_getElem? (i := 4) rfl)) rfl
theorem mc_306 : mW (yJ0_charAt_5068e, cJ0_charAt_5068e, 2, (some .char), 16, 1, false) ∈ tbg := tbg_mk (tb_3 (List.mem_of_getElem? (i := 92) rfl)) rfl
theorem mc_307 : mW (yJ0_checkIndex_df160, cJ0_checkIndex_df160, 2, none, 16, 2, true) ∈ tbg := tbg_mk (tb_3 (List.mem_of_getElem? (i := 98) rfl)) rfl
theorem mc_308 : mW (yJ0_indexOf_0f7a4, cJ0_indexOf_0f7a4, 2, (some .int), 16, 1, false) ∈ tbg := tbg_mk (tb_2 (List.mem_of_getElem? (i := 236) rfl)) rfl
theorem mc_309 : mW (yJ0_indexOf_7cf53, cJ0_indexOf_7cf53, 3, (some .int), 16, 2, false) ∈ tbg := tbg_mk (tb_3 (List.mem_of_getElem? (i := 0) rfl)) rfl
theorem mc_310 : mW (yJ1_charAt_3b067, cJ1_charAt_3b067, 2, (some .char), 17, 2, true) ∈ tbg := tbg_mk (tb_3 (List.mem_of_getElem? (i := 95) rfl)) rfl
theorem mc_311 : mW (yJ1_indexOf_4cfef, cJ1_indexOf_4cfef, 4, (some .int), 17, 4, true) ∈ tbg := tbg_mk (tb_3 (List.mem_of_getElem? (i := 17) rfl)) rfl
theorem mc_312 : mW (yJ1_canEncode_9a6ad, cJ1_canEncode_9a6ad, 1, (some .boolean), 17, 1, true) ∈ tbg := tbg_mk (tb_3 (List.mem_of_getElem? (i := 20) rfl)) rfl
theorem mc_313 : mW (yJ1_indexOfChar_4cfef, cJ1_indexOfChar_4cfef, 6, (some .int), 17, 4, true) ∈ tbg := tbg_mk (tb_3 (List.mem_of_getElem? (i := 25) rfl)) rfl
theorem mc_314 : mW (yJ3_checkIndex_8e157, cJ3_checkIndex_8e157, 3, (some .int), 18, 3, true) ∈ tbg := tbg_mk (tb_3 (List.mem_of_getElem? (i := 101) rfl)) rfl
theorem mcs_19 : ∀ e ∈ mtab.drop 304, mW e ∈ tbg := (List.forall_mem_cons.mpr ⟨mc_304, (List.forall_mem_cons.mpr ⟨mc_305, (List.forall_mem_cons.mpr ⟨mc_306, (List.forall_mem_cons.mpr ⟨mc_307, (List.forall_mem_cons.mpr ⟨mc_308, (List.forall_mem_cons.mpr ⟨mc_309, (List.forall_mem_cons.mpr ⟨mc_310, (List.forall_mem_cons.mpr ⟨mc_311, (List.forall_mem_cons.mpr ⟨mc_312, (List.forall_mem_cons.mpr ⟨mc_313, (List.forall_mem_cons.mpr ⟨mc_314, (fun _ h => absurd h List.not_mem_nil)⟩)⟩)⟩)⟩)⟩)⟩)⟩)⟩)⟩)⟩)⟩)
theorem mcs_18 : ∀ e ∈ mtab.drop 288, mW e ∈ tbg := (List.forall_mem_cons.mpr ⟨mc_288, (List.forall_mem_cons.mpr ⟨mc_289, (List.forall_mem_cons.mpr ⟨mc_290, (List.forall_mem_cons.mpr ⟨mc_291, (List.forall_mem_cons.mpr ⟨mc_292, (List.forall_mem_cons.mpr ⟨mc_293, (List.forall_mem_cons.mpr ⟨mc_294, (List.forall_mem_cons.mpr ⟨mc_295, (List.forall_mem_cons.mpr ⟨mc_296, (List.forall_mem_cons.mpr ⟨mc_297, (List.forall_mem_cons.mpr ⟨mc_298, (List.forall_mem_cons.mpr ⟨mc_299, (List.forall_mem_cons.mpr ⟨mc_300, (List.forall_mem_cons.mpr ⟨mc_301, (List.forall_mem_cons.mpr ⟨mc_302, (List.forall_mem_cons.mpr ⟨mc_303, mcs_19⟩)⟩)⟩)⟩)⟩)⟩)⟩)⟩)⟩)⟩)⟩)⟩)⟩)⟩)⟩)⟩)
theorem mcs_17 : ∀ e ∈ mtab.drop 272, mW e ∈ tbg := (List.forall_mem_cons.mpr ⟨mc_272, (List.forall_mem_cons.mpr ⟨mc_273, (List.forall_mem_cons.mpr ⟨mc_274, (List.forall_mem_cons.mpr ⟨mc_275, (List.forall_mem_cons.mpr ⟨mc_276, (List.forall_mem_cons.mpr ⟨mc_277, (List.forall_mem_cons.mpr ⟨mc_278, (List.forall_mem_cons.mpr ⟨mc_279, (List.forall_mem_cons.mpr ⟨mc_280, (List.forall_mem_cons.mpr ⟨mc_281, (List.forall_mem_cons.mpr ⟨mc_282, (List.forall_mem_cons.mpr ⟨mc_283, (List.forall_mem_cons.mpr ⟨mc_284, (List.forall_mem_cons.mpr ⟨mc_285, (List.forall_mem_cons.mpr ⟨mc_286, (List.forall_mem_cons.mpr ⟨mc_287, mcs_18⟩)⟩)⟩)⟩)⟩)⟩)⟩)⟩)⟩)⟩)⟩)⟩)⟩)⟩)⟩)⟩)
theorem mcs_16 : ∀ e ∈ mtab.drop 256, mW e ∈ tbg := (List.forall_mem_cons.mpr ⟨mc_256, (List.forall_mem_cons.mpr ⟨mc_257, (List.forall_mem_cons.mpr ⟨mc_258, (List.forall_mem_cons.mpr ⟨mc_259, (List.forall_mem_cons.mpr ⟨mc_260, (List.forall_mem_cons.mpr ⟨mc_261, (List.forall_mem_cons.mpr ⟨mc_262, (List.forall_mem_cons.mpr ⟨mc_263, (List.forall_mem_cons.mpr ⟨mc_264, (List.forall_mem_cons.mpr ⟨mc_265, (List.forall_mem_cons.mpr ⟨mc_266, (List.forall_mem_cons.mpr ⟨mc_267, (List.forall_mem_cons.mpr ⟨mc_268, (List.forall_mem_cons.mpr ⟨mc_269, (List.forall_mem_cons.mpr ⟨mc_270, (List.forall_mem_cons.mpr ⟨mc_271, mcs_17⟩)⟩)⟩)⟩)⟩)⟩)⟩)⟩)⟩)⟩)⟩)⟩)⟩)⟩)⟩)⟩)
theorem mcs_15 : ∀ e ∈ mtab.drop 240, mW e ∈ tbg := (List.forall_mem_cons.mpr ⟨mc_240, (List.forall_mem_cons.mpr ⟨mc_241, (List.forall_mem_cons.mpr ⟨mc_242, (List.forall_mem_cons.mpr ⟨mc_243, (List.forall_mem_cons.mpr ⟨mc_244, (List.forall_mem_cons.mpr ⟨mc_245, (List.forall_mem_cons.mpr ⟨mc_246, (List.forall_mem_cons.mpr ⟨mc_247, (List.forall_mem_cons.mpr ⟨mc_248, (List.forall_mem_cons.mpr ⟨mc_249, (List.forall_mem_cons.mpr ⟨mc_250, (List.forall_mem_cons.mpr ⟨mc_251, (List.forall_mem_cons.mpr ⟨mc_252, (List.forall_mem_cons.mpr ⟨mc_253, (List.forall_mem_cons.mpr ⟨mc_254, (List.forall_mem_cons.mpr ⟨mc_255, mcs_16⟩)⟩)⟩)⟩)⟩)⟩)⟩)⟩)⟩)⟩)⟩)⟩)⟩)⟩)⟩)⟩)
theorem mcs_14 : ∀ e ∈ mtab.drop 224, mW e ∈ tbg := (List.forall_mem_cons.mpr ⟨mc_224, (List.forall_mem_cons.mpr ⟨mc_225, (List.forall_mem_cons.mpr ⟨mc_226, (List.forall_mem_cons.mpr ⟨mc_227, (List.forall_mem_cons.mpr ⟨mc_228, (List.forall_mem_cons.mpr ⟨mc_229, (List.forall_mem_cons.mpr ⟨mc_230, (List.forall_mem_cons.mpr ⟨mc_231, (List.forall_mem_cons.mpr ⟨mc_232, (List.forall_mem_cons.mpr ⟨mc_233, (List.forall_mem_cons.mpr ⟨mc_234, (List.forall_mem_cons.mpr ⟨mc_235, (List.forall_mem_cons.mpr ⟨mc_236, (List.forall_mem_cons.mpr ⟨mc_237, (List.forall_mem_cons.mpr ⟨mc_238, (List.forall_mem_cons.mpr ⟨mc_239, mcs_15⟩)⟩)⟩)⟩)⟩)⟩)⟩)⟩)⟩)⟩)⟩)⟩)⟩)⟩)⟩)⟩)
theorem mcs_13 : ∀ e ∈ mtab.drop 208, mW e ∈ tbg := (List.forall_mem_cons.mpr ⟨mc_208, (List.forall_mem_cons.mpr ⟨mc_209, (List.forall_mem_cons.mpr ⟨mc_210, (List.forall_mem_cons.mpr ⟨mc_211, (List.forall_mem_cons.mpr ⟨mc_212, (List.forall_mem_cons.mpr ⟨mc_213, (List.forall_mem_cons.mpr ⟨mc_214, (List.forall_mem_cons.mpr ⟨mc_215, (List.forall_mem_cons.mpr ⟨mc_216, (List.forall_mem_cons.mpr ⟨mc_217, (List.forall_mem_cons.mpr ⟨mc_218, (List.forall_mem_cons.mpr ⟨mc_219, (List.forall_mem_cons.mpr ⟨mc_220, (List.forall_mem_cons.mpr ⟨mc_221, (List.forall_mem_cons.mpr ⟨mc_222, (List.forall_mem_cons.mpr ⟨mc_223, mcs_14⟩)⟩)⟩)⟩)⟩)⟩)⟩)⟩)⟩)⟩)⟩)⟩)⟩)⟩)⟩)⟩)
theorem mcs_12 : ∀ e ∈ mtab.drop 192, mW e ∈ tbg := (List.forall_mem_cons.mpr ⟨mc_192, (List.forall_mem_cons.mpr ⟨mc_193, (List.forall_mem_cons.mpr ⟨mc_194, (List.forall_mem_cons.mpr ⟨mc_195, (List.forall_mem_cons.mpr ⟨mc_196, (List.forall_mem_cons.mpr ⟨mc_197, (List.forall_mem_cons.mpr ⟨mc_198, (List.forall_mem_cons.mpr ⟨mc_199, (List.forall_mem_cons.mpr ⟨mc_200, (List.forall_mem_cons.mpr ⟨mc_201, (List.forall_mem_cons.mpr ⟨mc_202, (List.forall_mem_cons.mpr ⟨mc_203, (List.forall_mem_cons.mpr ⟨mc_204, (List.forall_mem_cons.mpr ⟨mc_205, (List.forall_mem_cons.mpr ⟨mc_206, (List.forall_mem_cons.mpr ⟨mc_207, mcs_13⟩)⟩)⟩)⟩)⟩)⟩)⟩)⟩)⟩)⟩)⟩)⟩)⟩)⟩)⟩)⟩)
theorem mcs_11 : ∀ e ∈ mtab.drop 176, mW e ∈ tbg := (List.forall_mem_cons.mpr ⟨mc_176, (List.forall_mem_cons.mpr ⟨mc_177, (List.forall_mem_cons.mpr ⟨mc_178, (List.forall_mem_cons.mpr ⟨mc_179, (List.forall_mem_cons.mpr ⟨mc_180, (List.forall_mem_cons.mpr ⟨mc_181, (List.forall_mem_cons.mpr ⟨mc_182, (List.forall_mem_cons.mpr ⟨mc_183, (List.forall_mem_cons.mpr ⟨mc_184, (List.forall_mem_cons.mpr ⟨mc_185, (List.forall_mem_cons.mpr ⟨mc_186, (List.forall_mem_cons.mpr ⟨mc_187, (List.forall_mem_cons.mpr ⟨mc_188, (List.forall_mem_cons.mpr ⟨mc_189, (List.forall_mem_cons.mpr ⟨mc_190, (List.forall_mem_cons.mpr ⟨mc_191, mcs_12⟩)⟩)⟩)⟩)⟩)⟩)⟩)⟩)⟩)⟩)⟩)⟩)⟩)⟩)⟩)⟩)
theorem mcs_10 : ∀ e ∈ mtab.drop 160, mW e ∈ tbg := (List.forall_mem_cons.mpr ⟨mc_160, (List.forall_mem_cons.mpr ⟨mc_161, (List.forall_mem_cons.mpr ⟨mc_162, (List.forall_mem_cons.mpr ⟨mc_163, (List.forall_mem_cons.mpr ⟨mc_164, (List.forall_mem_cons.mpr ⟨mc_165, (List.forall_mem_cons.mpr ⟨mc_166, (List.forall_mem_cons.mpr ⟨mc_167, (List.forall_mem_cons.mpr ⟨mc_168, (List.forall_mem_cons.mpr ⟨mc_169, (List.forall_mem_cons.mpr ⟨mc_170, (List.forall_mem_cons.mpr ⟨mc_171, (List.forall_mem_cons.mpr ⟨mc_172, (List.forall_mem_cons.mpr ⟨mc_173, (List.forall_mem_cons.mpr ⟨mc_174, (List.forall_mem_cons.mpr ⟨mc_175, mcs_11⟩)⟩)⟩)⟩)⟩)⟩)⟩)⟩)⟩)⟩)⟩)⟩)⟩)⟩)⟩)⟩)
theorem mcs_9 : ∀ e ∈ mtab.drop 144, mW e ∈ tbg := (List.forall_mem_cons.mpr ⟨mc_144, (List.forall_mem_cons.mpr ⟨mc_145, (List.forall_mem_cons.mpr ⟨mc_146, (List.forall_mem_cons.mpr ⟨mc_147, (List.forall_mem_cons.mpr ⟨mc_148, (List.forall_mem_cons.mpr ⟨mc_149, (List.forall_mem_cons.mpr ⟨mc_150, (List.forall_mem_cons.mpr ⟨mc_151, (List.forall_mem_cons.mpr ⟨mc_152, (List.forall_mem_cons.mpr ⟨mc_153, (List.forall_mem_cons.mpr ⟨mc_154, (List.forall_mem_cons.mpr ⟨mc_155, (List.forall_mem_cons.mpr ⟨mc_156, (List.forall_mem_cons.mpr ⟨mc_157, (List.forall_mem_cons.mpr ⟨mc_158, (List.forall_mem_cons.mpr ⟨mc_159, mcs_10⟩)⟩)⟩)⟩)⟩)⟩)⟩)⟩)⟩)⟩)⟩)⟩)⟩)⟩)⟩)⟩)
theorem mcs_8 : ∀ e ∈ mtab.drop 128, mW e ∈ tbg := (List.forall_mem_cons.mpr ⟨mc_128, (List.forall_mem_cons.mpr ⟨mc_129, (List.forall_mem_cons.mpr ⟨mc_130, (List.forall_mem_cons.mpr ⟨mc_131, (List.forall_mem_cons.mpr ⟨mc_132, (List.forall_mem_cons.mpr ⟨mc_133, (List.forall_mem_cons.mpr ⟨mc_134, (List.forall_mem_cons.mpr ⟨mc_135, (List.forall_mem_cons.mpr ⟨mc_136, (List.forall_mem_cons.mpr ⟨mc_137, (List.forall_mem_cons.mpr ⟨mc_138, (List.forall_mem_cons.mpr ⟨mc_139, (List.forall_mem_cons.mpr ⟨mc_140, (List.forall_mem_cons.mpr ⟨mc_141, (List.forall_mem_cons.mpr ⟨mc_142, (List.forall_mem_cons.mpr ⟨mc_143, mcs_9⟩)⟩)⟩)⟩)⟩)⟩)⟩)⟩)⟩)⟩)⟩)⟩)⟩)⟩)⟩)⟩)
theorem mcs_7 : ∀ e ∈ mtab.drop 112, mW e ∈ tbg := (List.forall_mem_cons.mpr ⟨mc_112, (List.forall_mem_cons.mpr ⟨mc_113, (List.forall_mem_cons.mpr ⟨mc_114, (List.forall_mem_cons.mpr ⟨mc_115, (List.forall_mem_cons.mpr ⟨mc_116, (List.forall_mem_cons.mpr ⟨mc_117, (List.forall_mem_cons.mpr ⟨mc_118, (List.forall_mem_cons.mpr ⟨mc_119, (List.forall_mem_cons.mpr ⟨mc_120, (List.forall_mem_cons.mpr ⟨mc_121, (List.forall_mem_cons.mpr ⟨mc_122, (List.forall_mem_cons.mpr ⟨mc_123, (List.forall_mem_cons.mpr ⟨mc_124, (List.forall_mem_cons.mpr ⟨mc_125, (List.forall_mem_cons.mpr ⟨mc_126, (List.forall_mem_cons.mpr ⟨mc_127, mcs_8⟩)⟩)⟩)⟩)⟩)⟩)⟩)⟩)⟩)⟩)⟩)⟩)⟩)⟩)⟩)⟩)
theorem mcs_6 : ∀ e ∈ mtab.drop 96, mW e ∈ tbg := (List.forall_mem_cons.mpr ⟨mc_96, (List.forall_mem_cons.mpr ⟨mc_97, (List.forall_mem_cons.mpr ⟨mc_98, (List.forall_mem_cons.mpr ⟨mc_99, (List.forall_mem_cons.mpr ⟨mc_100, (List.forall_mem_cons.mpr ⟨mc_101, (List.forall_mem_cons.mpr ⟨mc_102, (List.forall_mem_cons.mpr ⟨mc_103, (List.forall_mem_cons.mpr ⟨mc_104, (List.forall_mem_cons.mpr ⟨mc_105, (List.forall_mem_cons.mpr ⟨mc_106, (List.forall_mem_cons.mpr ⟨mc_107, (List.forall_mem_cons.mpr ⟨mc_108, (List.forall_mem_cons.mpr ⟨mc_109, (List.forall_mem_cons.mpr ⟨mc_110, (List.forall_mem_cons.mpr ⟨mc_111, mcs_7⟩)⟩)⟩)⟩)⟩)⟩)⟩)⟩)⟩)⟩)⟩)⟩)⟩)⟩)⟩)⟩)
theorem mcs_5 : ∀ e ∈ mtab.drop 80, mW e ∈ tbg := (List.forall_mem_cons.mpr ⟨mc_80, (List.forall_mem_cons.mpr ⟨mc_81, (List.forall_mem_cons.mpr ⟨mc_82, (List.forall_mem_cons.mpr ⟨mc_83, (List.forall_mem_cons.mpr ⟨mc_84, (List.forall_mem_cons.mpr ⟨mc_85, (List.forall_mem_cons.mpr ⟨mc_86, (List.forall_mem_cons.mpr ⟨mc_87, (List.forall_mem_cons.mpr ⟨mc_88, (List.forall_mem_cons.mpr ⟨mc_89, (List.forall_mem_cons.mpr ⟨mc_90, (List.forall_mem_cons.mpr ⟨mc_91, (List.forall_mem_cons.mpr ⟨mc_92, (List.forall_mem_cons.mpr ⟨mc_93, (List.forall_mem_cons.mpr ⟨mc_94, (List.forall_mem_cons.mpr ⟨mc_95, mcs_6⟩)⟩)⟩)⟩)⟩)⟩)⟩)⟩)⟩)⟩)⟩)⟩)⟩)⟩)⟩)⟩)
theorem mcs_4 : ∀ e ∈ mtab.drop 64, mW e ∈ tbg := (List.forall_mem_cons.mpr ⟨mc_64, (List.forall_mem_cons.mpr ⟨mc_65, (List.forall_mem_cons.mpr ⟨mc_66, (List.forall_mem_cons.mpr ⟨mc_67, (List.forall_mem_cons.mpr ⟨mc_68, (List.forall_mem_cons.mpr ⟨mc_69, (List.forall_mem_cons.mpr ⟨mc_70, (List.forall_mem_cons.mpr ⟨mc_71, (List.forall_mem_cons.mpr ⟨mc_72, (List.forall_mem_cons.mpr ⟨mc_73, (List.forall_mem_cons.mpr ⟨mc_74, (List.forall_mem_cons.mpr ⟨mc_75, (List.forall_mem_cons.mpr ⟨mc_76, (List.forall_mem_cons.mpr ⟨mc_77, (List.forall_mem_cons.mpr ⟨mc_78, (List.forall_mem_cons.mpr ⟨mc_79, mcs_5⟩)⟩)⟩)⟩)⟩)⟩)⟩)⟩)⟩)⟩)⟩)⟩)⟩)⟩)⟩)⟩)
theorem mcs_3 : ∀ e ∈ mtab.drop 48, mW e ∈ tbg := (List.forall_mem_cons.mpr ⟨mc_48, (List.forall_mem_cons.mpr ⟨mc_49, (List.forall_mem_cons.mpr ⟨mc_50, (List.forall_mem_cons.mpr ⟨mc_51, (List.forall_mem_cons.mpr ⟨mc_52, (List.forall_mem_cons.mpr ⟨mc_53, (List.forall_mem_cons.mpr ⟨mc_54, (List.forall_mem_cons.mpr ⟨mc_55, (List.forall_mem_cons.mpr ⟨mc_56, (List.forall_mem_cons.mpr ⟨mc_57, (List.forall_mem_cons.mpr ⟨mc_58, (List.forall_mem_cons.mpr ⟨mc_59, (List.forall_mem_cons.mpr ⟨mc_60, (List.forall_mem_cons.mpr ⟨mc_61, (List.forall_mem_cons.mpr ⟨mc_62, (List.forall_mem_cons.mpr ⟨mc_63, mcs_4⟩)⟩)⟩)⟩)⟩)⟩)⟩)⟩)⟩)⟩)⟩)⟩)⟩)⟩)⟩)⟩)
theorem mcs_2 : ∀ e ∈ mtab.drop 32, mW e ∈ tbg := (List.forall_mem_cons.mpr ⟨mc_32, (List.forall_mem_cons.mpr ⟨mc_33, (List.forall_mem_cons.mpr ⟨mc_34, (List.forall_mem_cons.mpr ⟨mc_35, (List.forall_mem_cons.mpr ⟨mc_36, (List.forall_mem_cons.mpr ⟨mc_37, (List.forall_mem_cons.mpr ⟨mc_38, (List.forall_mem_cons.mpr ⟨mc_39, (List.forall_mem_cons.mpr ⟨mc_40, (List.forall_mem_cons.mpr ⟨mc_41, (List.forall_mem_cons.mpr ⟨mc_42, (List.forall_mem_cons.mpr ⟨mc_43, (List.forall_mem_cons.mpr ⟨mc_44, (List.forall_mem_cons.mpr ⟨mc_45, (List.forall_mem_cons.mpr ⟨mc_46, (List.forall_mem_cons.mpr ⟨mc_47, mcs_3⟩)⟩)⟩)⟩)⟩)⟩)⟩)⟩)⟩)⟩)⟩)⟩)⟩)⟩)⟩)⟩)
theorem mcs_1 : ∀ e ∈ mtab.drop 16, mW e ∈ tbg := (List.forall_mem_cons.mpr ⟨mc_16, (List.forall_mem_cons.mpr ⟨mc_17, (List.forall_mem_cons.mpr ⟨mc_18, (List.forall_mem_cons.mpr ⟨mc_19, (List.forall_mem_cons.mpr ⟨mc_20, (List.forall_mem_cons.mpr ⟨mc_21, (List.forall_mem_cons.mpr ⟨mc_22, (List.forall_mem_cons.mpr ⟨mc_23, (List.forall_mem_cons.mpr ⟨mc_24, (List.forall_mem_cons.mpr ⟨mc_25, (List.forall_mem_cons.mpr ⟨mc_26, (List.forall_mem_cons.mpr ⟨mc_27, (List.forall_mem_cons.mpr ⟨mc_28, (List.forall_mem_cons.mpr ⟨mc_29, (List.forall_mem_cons.mpr ⟨mc_30, (List.forall_mem_cons.mpr ⟨mc_31, mcs_2⟩)⟩)⟩)⟩)⟩)⟩)⟩)⟩)⟩)⟩)⟩)⟩)⟩)⟩)⟩)⟩)
theorem mcs_0 : ∀ e ∈ mtab.drop 0, mW e ∈ tbg := (List.forall_mem_cons.mpr ⟨mc_0, (List.forall_mem_cons.mpr ⟨mc_1, (List.forall_mem_cons.mpr ⟨mc_2, (List.forall_mem_cons.mpr ⟨mc_3, (List.forall_mem_cons.mpr ⟨mc_4, (List.forall_mem_cons.mpr ⟨mc_5, (List.forall_mem_cons.mpr ⟨mc_6, (List.forall_mem_cons.mpr ⟨mc_7, (List.forall_mem_cons.mpr ⟨mc_8, (List.forall_mem_cons.mpr ⟨mc_9, (List.forall_mem_cons.mpr ⟨mc_10, (List.forall_mem_cons.mpr ⟨mc_11, (List.forall_mem_cons.mpr ⟨mc_12, (List.forall_mem_cons.mpr ⟨mc_13, (List.forall_mem_cons.mpr ⟨mc_14, (List.forall_mem_cons.mpr ⟨mc_15, mcs_1⟩)⟩)⟩)⟩)⟩)⟩)⟩)⟩)⟩)⟩)⟩)⟩)⟩)⟩)⟩)⟩)
def miL : List Nat := [106, 107, 108, 24, 25, 308, 309, 305, 303, 304, 26, 27, 28, 306, 29, 30, 31, 32, 33, 34, 35, 36, 37, 38, 39, 40, 41, 42, 43, 44, 45, 46, 47, 48, 49, 50, 79, 61, 80, 81, 82, 83, 84, 85, 86, 51, 87, 88, 89, 90, 91, 20, 109, 110, 92, 111, 112, 93, 113, 21, 62, 22, 114, 0, 1, 2, 94, 95, 3, 115, 116, 4, 117, 5, 96, 118, 119, 120, 6, 63, 64, 121, 7, 122, 8, 9, 123, 23, 124, 97, 10, 11, 98, 99, 100, 125, 126, 12, 127, 101, 128, 102, 129, 68, 69, 130, 53, 54, 55, 56, 131, 132, 57, 58, 59, 133, 134, 60, 135, 13, 136, 14, 137, 15, 16, 138, 17, 18, 19, 139, 140, 141, 70, 142, 143, 103, 144, 145, 146, 147, 148, 71, 72, 149, 150, 73, 74, 151, 75, 76, 77, 152, 153, 65, 154, 66, 67, 155, 156, 157, 158, 104, 105, 160, 161, 163, 164, 166, 168, 169, 170, 171, 172, 173, 174, 175, 176, 177, 178, 179, 180, 181, 182, 183, 184, 185, 186, 187, 188, 189, 190, 191, 192, 193, 194, 195, 197, 199, 200, 201, 202, 203, 204, 205, 206, 207, 208, 209, 210, 211, 212, 213, 214, 215, 216, 217, 218, 219, 220, 221, 222, 223, 224, 225, 226, 227, 228, 229, 230, 231, 232, 233, 234, 235, 236, 237, 238, 239, 240, 241, 242, 243, 244, 245, 246, 247, 248, 249, 250, 251, 252, 254, 255, 256, 257, 258, 259, 260, 261, 262, 263, 264, 265, 266, 267, 268, 269, 270, 271, 272, 273, 274, 275, 276, 277, 278, 279, 280, 281, 282, 283, 284, 285, 286, 289, 290, 291, 293, 294, 295, 296, 297, 298, 299]
set_option maxRecDepth 100000 in
theorem mi_in : ∀ w ∈ miL.map (fun j => Cond.instanceMethod (mY j)), w ∈ tbg := tbg_sub _ (by decide +kernel) (by decide +kernel)
def msL : List Nat := [107, 25, 26, 27, 28, 29, 30, 31, 32, 33, 34, 35, 36, 37, 38, 39, 40, 41, 42, 43, 44, 45, 46, 47, 48, 49, 50, 84, 87, 1, 2, 3, 115, 119, 120, 9, 11, 99, 69, 54, 55, 56, 132, 58, 59, 16, 18, 19, 143, 144, 148, 72, 74, 77, 67, 163, 164, 166, 168, 169, 170, 171, 172, 173, 174, 175, 176, 177, 178, 179, 180, 181, 182, 183, 184, 185, 186, 187, 188, 189, 190, 191, 192, 193, 194, 195, 197, 199, 200, 203, 206, 208, 209, 211, 212, 213, 214, 215, 216, 217, 218, 220, 221, 222, 224, 225, 227, 228, 229, 231, 232, 234, 235, 238, 239, 240, 241, 242, 243, 246, 248, 249, 251, 255, 257, 258, 259, 263, 266, 267, 269, 270, 271, 276, 277, 281, 282, 286, 297, 298, 299, 106, 108, 24, 308, 309, 305, 303, 304, 306, 79, 61, 80, 81, 82, 83, 85, 86, 51, 88, 89, 90, 91, 20, 109, 110, 92, 111, 112, 93, 113, 21, 62, 22, 114, 0, 94, 95, 116, 4, 117, 5, 96, 118, 6, 63, 64, 121, 7, 122, 8, 123, 23, 124, 97, 10, 98, 100, 125, 126, 12, 127, 101, 128, 102, 129, 68, 130, 53, 131, 57, 133, 134, 60, 135, 13, 136, 14, 137, 15, 138, 17, 139, 140, 141, 70, 142, 103, 145, 146, 147, 71, 149, 150, 73, 151, 75, 76, 152, 153, 65, 154, 66, 155, 156, 157, 158, 104, 105, 160, 161, 201, 202, 204, 205, 207, 210, 219, 223, 226, 230, 233, 236, 237, 244, 245, 247, 250, 252, 254, 256, 260, 261, 262, 264, 265, 268, 272, 273, 274, 275, 278, 279, 280, 283, 284, 285, 289, 290, 291, 293, 294, 295, 296]
set_option maxRecDepth 100000 in
theorem ms_in : ∀ w ∈ msL.map (fun j => Cond.selects (mY j).cls (mY j) (mY j)), w ∈ tbg := tbg_sub _ (by decide +kernel) (by decide +kernel)
def mtL : List Nat := [311, 312, 313, 310, 307, 314, 300, 52, 301, 78, 302, 159, 162, 165, 167, 196, 198, 253, 287, 288, 292]
set_option maxRecDepth 100000 in
theorem mt_in : ∀ w ∈ mtL.map (fun j => Cond.static (mY j)), w ∈ tbg := tbg_sub _ (by decide +kernel) (by decide +kernel)
def mnL : List Nat := [11, 4, 10, 7, 5, 0, 2, 6, 1, 9, 8, 12, 16, 17, 18, 15, 13]
set_option maxRecDepth 100000 in
theorem mn_in : ∀ w ∈ mnL.map (fun j => Cond.initialized (cnm j)), w ∈ tbg := tbg_sub _ (by decide +kernel) (by decide +kernel)
def mOk (j : Nat) : Bool := (plainName (mY j).cls) && ((mY j).cls == cnm (mC j)) && ((mY j).cls != "java/lang/invoke/MethodHandle") && ((mY j).cls != "java/lang/invoke/VarHandle") && (decide ((parseMethodDescriptor (mY j).desc).map (fun d => d.parameters.length) = some (mP j))) && decide (mL j ≤ 40) && mnL.contains (mC j) && (if mS j then mtL.contains j else miL.contains j && msL.contains j)
set_option maxRecDepth 100000 in
theorem m_ok : (List.range 315).all mOk = true := by decide +kernel
def tX (k : Nat) : u_T := match k with
  | 0 => TX0
  | 1 => TX1
  | 2 => TX2
  | 3 => TX3
  | 4 => TX4
  | 5 => TX5
  | 6 => TX6
  | 7 => TX7
  | 8 => TX8
  | 9 => TX9
  | 10 => TX10
  | 11 => TX11
  | _ => TX12
def tyX (k : Nat) : Nat → FieldType := match k with
  | 0 => tyX0
  | 1 => tyX1
  | 2 => tyX2
  | 3 => tyX3
  | 4 => tyX4
  | 5 => tyX5
  | 6 => tyX6
  | 7 => tyX7
  | 8 => tyX8
  | 9 => tyX9
  | 10 => tyX10
  | 11 => tyX11
  | _ => tyX12
def nX (k : Nat) : Nat := match k with
  | 0 => 3
  | 1 => 8
  | 2 => 3
  | 3 => 10
  | 4 => 12
  | 5 => 2
  | 6 => 6
  | 7 => 7
  | 8 => 4
  | 9 => 8
  | 10 => 4
  | 11 => 14
  | _ => 33
/-- (own class, pool place, class, slot) -/
def FLT : List (Nat × Nat × Nat × Nat) := [(3, 9, 3, 0), (3, 15, 3, 1), (3, 18, 3, 2), (3, 21, 3, 3), (3, 24, 3, 4), (3, 27, 3, 5), (3, 31, 3, 6), (3, 34, 3, 7), (3, 37, 3, 8), (3, 40, 3, 9), (4, 51, 4, 0), (4, 9, 4, 1), (4, 15, 4, 2), (4, 19, 4, 3), (4, 22, 4, 4), (4, 25, 4, 5), (4, 28, 4, 6), (4, 31, 4, 7), (4, 34, 4, 8), (4, 41, 4, 9), (4, 45, 4, 10), (4, 48, 4, 11), (7, 9, 7, 0), (7, 15, 7, 1), (7, 18, 7, 2), (7, 21, 7, 3), (7, 25, 7, 4), (7, 28, 7, 5), (7, 31, 7, 6), (5, 9, 5, 0), (5, 15, 5, 1), (10, 12, 10, 0), (10, 21, 10, 1), (10, 25, 10, 2), (10, 32, 10, 3), (0, 18, 0, 0), (0, 9, 0, 1), (0, 15, 0, 2), (2, 13, 2, 0), (2, 17, 2, 1), (2, 21, 2, 2), (6, 28, 6, 0), (6, 9, 6, 1), (6, 15, 6, 2), (6, 18, 6, 3), (6, 21, 6, 4), (6, 24, 6, 5), (1, 34, 1, 0), (1, 9, 1, 1), (1, 15, 1, 2), (1, 18, 1, 3), (1, 21, 1, 4), (1, 24, 1, 5), (1, 28, 1, 6), (1, 31, 1, 7), (9, 32, 9, 0), (9, 36, 9, 1), (9, 9, 9, 2), (9, 15, 9, 3), (9, 18, 9, 4), (9, 22, 9, 5), (9, 25, 9, 6), (9, 29, 9, 7), (8, 9, 8, 0), (8, 15, 8, 1), (8, 19, 8, 2), (8, 23, 8, 3), (11, 9, 11, 0), (11, 18, 11, 1), (11, 25, 11, 2), (11, 29, 11, 3), (11, 37, 11, 4), (11, 41, 11, 5), (11, 47, 11, 6), (11, 54, 11, 7), (11, 61, 11, 8), (11, 70, 11, 9), (11, 76, 11, 10), (11, 80, 11, 11), (11, 84, 11, 12), (11, 88, 11, 13), (12, 1, 12, 0), (12, 13, 12, 1), (12, 17, 12, 2), (12, 21, 12, 3), (12, 24, 12, 4), (12, 68, 12, 5), (12, 86, 12, 6), (12, 89, 12, 7), (12, 71, 12, 8), (12, 96, 12, 9), (12, 109, 12, 10), (12, 114, 12, 11), (12, 117, 12, 12), (12, 189, 12, 13), (12, 27, 12, 14), (12, 134, 12, 15), (12, 30, 12, 16), (12, 33, 12, 17), (12, 36, 12, 18), (12, 39, 12, 19), (12, 42, 12, 20), (12, 304, 12, 21), (12, 353, 12, 22), (12, 45, 12, 23), (12, 394, 12, 24), (12, 48, 12, 25), (12, 422, 12, 26), (12, 428, 12, 27), (12, 425, 12, 28), (12, 51, 12, 29), (12, 54, 12, 30), (12, 57, 12, 31), (12, 60, 12, 32)]
def FLN : List (Nat × Nat × Nat × Nat) := [(4, 119, 3, 0), (10, 115, 3, 0), (7, 40, 3, 1), (4, 172, 3, 1), (7, 45, 3, 2), (4, 179, 3, 2), (10, 64, 3, 3), (4, 194, 3, 3), (10, 102, 3, 4), (4, 199, 3, 4), (6, 59, 3, 5), (0, 55, 3, 5), (10, 51, 3, 5), (4, 117, 3, 5), (11, 323, 3, 5), (9, 45, 3, 6), (1, 51, 3, 6), (10, 47, 3, 6), (0, 83, 3, 6), (6, 112, 3, 6), (4, 167, 3, 6), (11, 261, 3, 6), (9, 127, 3, 7), (0, 126, 3, 7), (4, 182, 3, 7), (7, 54, 3, 8), (4, 184, 3, 8), (11, 111, 3, 9), (4, 104, 3, 9), (11, 101, 4, 10), (11, 116, 4, 11), (0, 32, 7, 0), (11, 127, 7, 0), (10, 108, 7, 0), (10, 57, 7, 1), (11, 165, 7, 2), (0, 113, 7, 2), (10, 118, 7, 2), (10, 54, 7, 3), (6, 94, 7, 3), (0, 110, 7, 3), (11, 390, 7, 3), (9, 118, 7, 4), (0, 120, 7, 4), (10, 96, 7, 4), (11, 393, 7, 4), (9, 132, 7, 5), (0, 129, 7, 5), (10, 99, 7, 5), (11, 207, 7, 5), (11, 172, 7, 6), (0, 117, 7, 6), (10, 75, 5, 1), (0, 28, 10, 0), (11, 123, 10, 0), (6, 90, 10, 0), (9, 114, 10, 0), (9, 86, 10, 2), (6, 87, 10, 2), (11, 308, 10, 2), (9, 39, 10, 3), (1, 47, 10, 3), (6, 55, 10, 3), (0, 51, 10, 3), (11, 257, 10, 3), (11, 231, 0, 1), (11, 197, 0, 2), (11, 210, 2, 2), (11, 276, 6, 3), (11, 302, 1, 2), (11, 299, 1, 5), (11, 305, 1, 6), (11, 296, 1, 7), (11, 337, 9, 2), (11, 353, 9, 6), (11, 357, 9, 7), (9, 100, 8, 0), (0, 132, 8, 0), (11, 220, 8, 1), (6, 32, 8, 3), (9, 95, 8, 3), (0, 94, 8, 3), (11, 230, 8, 3)]
def flw (e : Nat × Nat × Nat × Nat) : Cond := .fieldLink (cnm e.1) e.2.1 (tX e.2.2.1 e.2.2.2).1 (tX e.2.2.1 e.2.2.2).2.1 (tX e.2.2.1 e.2.2.2).2.2.1
def fln (e : Nat × Nat × Nat × Nat) : Cond := .fieldLinkNest (cnm e.1) e.2.1 (tX e.2.2.1 e.2.2.2).1 (tX e.2.2.1 e.2.2.2).2.1 (tX e.2.2.1 e.2.2.2).2.2.1 "DebtBridge"
set_option maxRecDepth 100000 in
theorem fl_in : ∀ w ∈ FLT.map flw, w ∈ tbg := tbg_sub _ (by decide +kernel) (by decide +kernel)
set_option maxRecDepth 100000 in
theorem fn_in : ∀ w ∈ FLN.map fln, w ∈ lw_tbl := subl_in _ _ (by decide +kernel)
/-- (own class, pool place, method) -/
def MLT : List (Nat × Nat × Nat) := [(19, 13, 106), (11, 93, 107), (19, 18, 108), (11, 97, 24), (4, 64, 25), (4, 76, 308), (16, 633, 309), (16, 492, 305), (16, 505, 303), (16, 335, 304), (16, 637, 311), (17, 88, 312), (17, 95, 313), (4, 67, 26), (4, 109, 27), (4, 89, 28), (4, 82, 303), (4, 85, 306), (16, 495, 310), (17, 9, 307), (16, 1059, 314), (4, 93, 29), (4, 112, 30), (4, 122, 300), (4, 128, 31), (4, 101, 32), (4, 97, 33), (4, 71, 34), (4, 133, 35), (4, 138, 36), (4, 143, 37), (4, 148, 38), (4, 187, 39), (4, 220, 40), (4, 223, 41), (4, 226, 42), (4, 206, 43), (4, 153, 44), (4, 196, 45), (4, 201, 46), (4, 210, 47), (4, 217, 48), (4, 158, 49), (4, 163, 50), (11, 104, 79), (10, 36, 61), (7, 48, 300), (10, 40, 80), (10, 105, 81), (10, 67, 82), (10, 60, 83), (10, 71, 84), (10, 78, 85), (10, 81, 86), (10, 84, 51), (5, 18, 52), (10, 121, 87), (10, 125, 88), (10, 128, 89), (10, 111, 90), (10, 131, 91), (11, 108, 20), (19, 23, 109), (19, 27, 110), (11, 119, 92), (11, 133, 82), (11, 137, 85), (11, 140, 86), (11, 143, 81), (19, 32, 111), (11, 146, 83), (19, 36, 112), (11, 150, 90), (11, 153, 91), (11, 156, 93), (11, 159, 89), (11, 162, 88), (19, 40, 113), (11, 168, 21), (2, 25, 62), (11, 175, 22), (19, 44, 114), (11, 178, 0), (0, 22, 92), (0, 38, 1), (0, 60, 90), (0, 63, 88), (0, 42, 2), (0, 66, 94), (0, 70, 301), (0, 76, 81), (0, 79, 95), (0, 45, 3), (0, 86, 83), (0, 48, 80), (11, 181, 115), (19, 49, 116), (11, 184, 4), (19, 53, 117), (11, 187, 5), (0, 90, 96), (19, 57, 118), (11, 190, 119), (11, 217, 120), (11, 193, 6), (0, 99, 63), (0, 102, 64), (19, 61, 121), (11, 200, 7), (19, 65, 122), (11, 203, 8), (0, 123, 9), (19, 69, 123), (11, 213, 23), (19, 73, 124), (11, 224, 97), (10, 43, 62), (11, 227, 10), (0, 136, 11), (0, 142, 8), (0, 147, 0), (0, 150, 4), (0, 153, 5), (0, 156, 7), (11, 234, 98), (10, 141, 99), (11, 237, 100), (19, 77, 125), (19, 81, 126), (11, 240, 12), (19, 85, 127), (11, 243, 101), (10, 134, 95), (19, 89, 128), (11, 246, 102), (10, 138, 101), (19, 94, 129), (11, 249, 68), (9, 50, 301), (9, 56, 69), (9, 60, 97), (9, 64, 96), (9, 68, 101), (11, 252, 301), (19, 98, 130), (11, 264, 63), (11, 267, 53), (6, 37, 64), (6, 47, 54), (6, 50, 93), (6, 64, 300), (6, 70, 90), (6, 74, 55), (6, 78, 88), (6, 81, 56), (6, 84, 91), (19, 102, 131), (11, 270, 132), (11, 273, 57), (6, 99, 58), (6, 102, 59), (19, 106, 133), (19, 110, 134), (11, 279, 60), (19, 114, 135), (11, 283, 13), (1, 38, 86), (1, 44, 82), (19, 118, 136), (11, 287, 14), (1, 56, 13), (19, 122, 137), (11, 290, 15), (1, 65, 16), (19, 126, 138), (11, 293, 17), (1, 68, 18), (1, 72, 83), (1, 78, 19), (19, 130, 139), (19, 134, 140), (19, 138, 141), (11, 311, 70), (9, 71, 102), (9, 75, 83), (19, 142, 142), (11, 314, 143), (11, 320, 103), (11, 317, 144), (19, 146, 145), (19, 150, 146), (19, 154, 147), (11, 331, 148), (11, 334, 71), (9, 79, 93), (9, 82, 72), (19, 158, 149), (19, 162, 150), (11, 340, 73), (9, 106, 74), (19, 166, 151), (11, 347, 75), (11, 350, 76), (9, 123, 77), (19, 171, 152), (19, 175, 153), (11, 368, 65), (8, 26, 302), (19, 182, 154), (11, 374, 66), (8, 32, 67), (19, 187, 155), (19, 191, 156), (19, 195, 157), (19, 199, 158), (11, 381, 94), (11, 384, 104), (11, 387, 105), (12, 64, 159), (19, 17, 160), (19, 22, 161), (12, 130, 162), (12, 123, 163), (12, 92, 164), (12, 99, 165), (12, 103, 166), (12, 76, 303), (12, 82, 306), (12, 106, 167), (12, 149, 168), (12, 120, 169), (12, 126, 170), (12, 167, 171), (12, 183, 172), (12, 186, 173), (12, 171, 174), (12, 174, 175), (12, 177, 176), (12, 180, 177), (12, 146, 178), (12, 155, 179), (12, 152, 180), (12, 137, 181), (12, 140, 182), (12, 143, 183), (12, 161, 184), (12, 164, 185), (12, 158, 186), (12, 192, 187), (12, 238, 188), (12, 225, 189), (12, 222, 190), (12, 210, 191), (12, 199, 192), (12, 213, 193), (12, 216, 194), (12, 219, 195), (12, 206, 196), (12, 241, 197), (12, 228, 198), (12, 232, 199), (12, 235, 200), (19, 26, 201), (19, 31, 202), (12, 195, 203), (19, 35, 204), (19, 39, 205), (12, 244, 206), (19, 43, 207), (12, 275, 208), (12, 278, 209), (19, 48, 210), (12, 281, 211), (12, 254, 212), (12, 257, 213), (12, 260, 214), (12, 247, 215), (12, 250, 216), (12, 264, 217), (12, 285, 218), (19, 52, 219), (12, 289, 220), (12, 267, 221), (12, 293, 222), (19, 56, 223), (12, 296, 224), (12, 299, 225), (19, 60, 226), (12, 308, 227), (12, 315, 228), (12, 318, 229), (19, 64, 230), (12, 321, 231), (12, 325, 232), (19, 68, 233), (12, 330, 234), (12, 272, 235), (19, 72, 236), (19, 76, 237), (12, 362, 238), (12, 356, 239), (12, 359, 240), (12, 365, 241), (12, 368, 242), (12, 371, 243), (19, 80, 244), (19, 84, 245), (12, 376, 246), (19, 88, 247), (12, 382, 248), (12, 379, 249), (19, 93, 250), (12, 385, 251), (19, 97, 252), (12, 388, 253), (19, 101, 254), (12, 391, 255), (19, 105, 256), (12, 400, 257), (12, 403, 258), (12, 397, 259), (19, 109, 260), (19, 113, 261), (19, 117, 262), (12, 406, 263), (19, 121, 264), (19, 125, 265), (12, 413, 266), (12, 410, 267), (19, 129, 268), (12, 431, 269), (12, 419, 270), (12, 416, 271), (19, 133, 272), (19, 137, 273), (19, 141, 274), (19, 145, 275), (12, 439, 276), (12, 436, 277), (19, 149, 278), (19, 153, 279), (19, 157, 280), (12, 442, 281), (12, 445, 282), (19, 161, 283), (19, 165, 284), (19, 170, 285), (12, 460, 286), (12, 452, 287), (12, 448, 288), (19, 174, 289), (19, 179, 290), (19, 186, 291), (12, 466, 292), (19, 190, 293), (19, 194, 294), (19, 198, 295), (19, 202, 296), (12, 470, 297), (12, 473, 298), (12, 476, 299)]
def MLN : List (Nat × Nat × Nat) := [(11, 360, 78)]
set_option maxRecDepth 100000 in
theorem ml_in : ∀ w ∈ MLT.map (fun e => Cond.methodLink (cnm e.1) e.2.1 (mY e.2.2)), w ∈ tbg := tbg_sub _ (by decide +kernel) (by decide +kernel)
set_option maxRecDepth 100000 in
theorem mn2_in : ∀ w ∈ MLN.map (fun e => Cond.methodLinkNest (cnm e.1) e.2.1 (mY e.2.2) "DebtBridge"), w ∈ lw_tbl := subl_in _ _ (by decide +kernel)
def CIT : List (Nat × Nat × Int) := [(13, 265, 1431655765), (13, 266, 858993459), (13, 267, 252645135), (0, 116, 1103515245), (11, 286, -99000002), (12, 307, 268435456), (12, 271, 1103515245), (12, 409, -99000002)]
set_option maxRecDepth 100000 in
theorem ci_in : ∀ w ∈ CIT.map (fun e => Cond.constant (cnm e.1) e.2.1 (Int32.ofInt e.2.2)), w ∈ tbg := tbg_sub _ (by decide +kernel) (by decide +kernel)
def CJT : List (Nat × Nat × Int) := [(5, 22, -1000000), (5, 24, 1000000), (0, 140, -1), (0, 145, 309), (9, 104, -1), (11, 343, -2), (11, 345, -3), (9, 130, 10), (11, 366, 100), (11, 372, -7), (8, 36, -7), (12, 202, 1000000), (12, 204, -1000000), (12, 302, 3), (12, 311, 2), (12, 313, 6), (12, 328, 99), (12, 333, 10), (12, 335, -1), (12, 337, 9), (12, 339, 19), (12, 341, 100), (12, 343, 199), (12, 345, 200), (12, 347, 299), (12, 349, 300), (12, 351, 309), (12, 374, 40), (12, 434, 15), (12, 456, -2), (12, 458, -3), (12, 464, -7), (19, 180, 4294967295)]
set_option maxRecDepth 100000 in
theorem cj_in : ∀ w ∈ CJT.map (fun e => Cond.constantLong (cnm e.1) e.2.1 (Int64.ofInt e.2.2)), w ∈ tbg := tbg_sub _ (by decide +kernel) (by decide +kernel)
set_option maxRecDepth 100000 in
theorem ly_0 : ∀ w ∈ u_ws RX0 TX0 3, w ∈ tbg := tbg_sub _ (by decide +kernel) (by decide +kernel)
set_option maxRecDepth 100000 in
theorem ly_1 : ∀ w ∈ u_ws RX1 TX1 8, w ∈ tbg := tbg_sub _ (by decide +kernel) (by decide +kernel)
set_option maxRecDepth 100000 in
theorem ly_2 : ∀ w ∈ u_ws RX2 TX2 3, w ∈ tbg := tbg_sub _ (by decide +kernel) (by decide +kernel)
set_option maxRecDepth 100000 in
theorem ly_3 : ∀ w ∈ u_ws RX3 TX3 10, w ∈ tbg := tbg_sub _ (by decide +kernel) (by decide +kernel)
set_option maxRecDepth 100000 in
theorem ly_4 : ∀ w ∈ u_ws RX4 TX4 12, w ∈ tbg := tbg_sub _ (by decide +kernel) (by decide +kernel)
set_option maxRecDepth 100000 in
theorem ly_5 : ∀ w ∈ u_ws RX5 TX5 2, w ∈ tbg := tbg_sub _ (by decide +kernel) (by decide +kernel)
set_option maxRecDepth 100000 in
theorem ly_6 : ∀ w ∈ u_ws RX6 TX6 6, w ∈ tbg := tbg_sub _ (by decide +kernel) (by decide +kernel)
set_option maxRecDepth 100000 in
theorem ly_7 : ∀ w ∈ u_ws RX7 TX7 7, w ∈ tbg := tbg_sub _ (by decide +kernel) (by decide +kernel)
set_option maxRecDepth 100000 in
theorem ly_8 : ∀ w ∈ u_ws RX8 TX8 4, w ∈ tbg := tbg_sub _ (by decide +kernel) (by decide +kernel)
set_option maxRecDepth 100000 in
theorem ly_9 : ∀ w ∈ u_ws RX9 TX9 8, w ∈ tbg := tbg_sub _ (by decide +kernel) (by decide +kernel)
set_option maxRecDepth 100000 in
theorem ly_10 : ∀ w ∈ u_ws RX10 TX10 4, w ∈ tbg := tbg_sub _ (by decide +kernel) (by decide +kernel)
set_option maxRecDepth 100000 in
theorem ly_11 : ∀ w ∈ u_ws RX11 TX11 14, w ∈ tbg := tbg_sub _ (by decide +kernel) (by decide +kernel)
set_option maxRecDepth 100000 in
theorem ly_12 : ∀ w ∈ u_ws RX12 TX12 33, w ∈ tbg := tbg_sub _ (by decide +kernel) (by decide +kernel)
def ACT : List (Nat × Nat) := [(15, 150), (7, 34), (6, 106), (1, 82), (9, 89)]
set_option maxRecDepth 100000 in
theorem ac_in : ∀ w ∈ ACT.map (fun e => Cond.methodLink (cnm e.1) e.2 arraycopyName), w ∈ tbg := tbg_sub _ (by decide +kernel) (by decide +kernel)
set_option maxRecDepth 100000 in
theorem ac_w : ∀ w ∈ [Cond.initialized "java/lang/System", Cond.static arraycopyName, Cond.native arraycopyName], w ∈ tbg := tbg_sub _ (by decide +kernel) (by decide +kernel)
def mxn (k : Nat) : MethodName := match k with
  | 0 => Lib.Math.max.name
  | 1 => Lib.Math.min.name
  | 2 => Lib.MathLoose.max_long.x
  | _ => Lib.MathLoose.min_long.x
def MXT : List (Nat × Nat × Nat) := [(4, 55, 1), (4, 61, 0), (17, 92, 0), (17, 38, 1), (15, 304, 1), (5, 26, 3), (5, 32, 2), (10, 88, 1), (10, 93, 0), (0, 105, 1), (6, 41, 1), (1, 59, 0), (1, 75, 1), (11, 326, 0), (9, 109, 0), (11, 364, 2), (11, 378, 1)]
set_option maxRecDepth 100000 in
theorem mx_in : ∀ w ∈ MXT.map (fun e => Cond.methodLink (cnm e.1) e.2.1 (mxn e.2.2)), w ∈ tbg := tbg_sub _ (by decide +kernel) (by decide +kernel)
set_option maxRecDepth 100000 in
theorem mx_s : ∀ w ∈ ([1, 0, 3, 2] : List Nat).map (fun k => Cond.static (mxn k)), w ∈ tbg := tbg_sub _ (by decide +kernel) (by decide +kernel)
set_option maxRecDepth 100000 in
theorem mx_c : ∀ w ∈ [Cond.code Lib.Math.min.name Lib.Math.min.code 2 (some .int), Cond.code Lib.Math.max.name Lib.Math.max.code 2 (some .int), Cond.code Lib.MathLoose.min_long.x Lib.MathLoose.min_long.code 4 (some .long), Cond.code Lib.MathLoose.max_long.x Lib.MathLoose.max_long.code 4 (some .long)], w ∈ tbg := tbg_sub _ (by decide +kernel) (by decide +kernel)
set_option maxRecDepth 100000 in
theorem mx_i : ∀ w ∈ [Cond.initialized "java/lang/Math"], w ∈ tbg := tbg_sub _ (by decide +kernel) (by decide +kernel)
def NM : Nat := 315
def stx (n : Nat) : String := match n with
  | 0 => ";:+-*()[]=<>"
  | 1 => "planks"
  | 2 => "bear"
  | 3 => "plank"
  | 4 => "bears"
  | 5 => "person"
  | 6 => "at"
  | 7 => "owes"
  | 8 => "to"
  | 9 => "of"
  | 10 => "weighs"
  | 11 => "who"
  | 12 => "day"
  | 13 => "snow"
  | 14 => "debt"
  | 15 => "papers"
  | 16 => "weight"
  | 17 => "owed"
  | 18 => "others"
  | 19 => "lets"
  | 20 => "not"
  | 21 => "and"
  | 22 => "or"
  | 23 => "snowy"
  | 24 => " planks bear plank bears person at owes to of weighs lets snowy day who snow debt papers owed weight others and or not "
  | _ => ""
def sby (n : Nat) : List Int := match n with
  | 0 => [59, 58, 43, 45, 42, 40, 41, 91, 93, 61, 60, 62]
  | 1 => [112, 108, 97, 110, 107, 115]
  | 2 => [98, 101, 97, 114]
  | 3 => [112, 108, 97, 110, 107]
  | 4 => [98, 101, 97, 114, 115]
  | 5 => [112, 101, 114, 115, 111, 110]
  | 6 => [97, 116]
  | 7 => [111, 119, 101, 115]
  | 8 => [116, 111]
  | 9 => [111, 102]
  | 10 => [119, 101, 105, 103, 104, 115]
  | 11 => [119, 104, 111]
  | 12 => [100, 97, 121]
  | 13 => [115, 110, 111, 119]
  | 14 => [100, 101, 98, 116]
  | 15 => [112, 97, 112, 101, 114, 115]
  | 16 => [119, 101, 105, 103, 104, 116]
  | 17 => [111, 119, 101, 100]
  | 18 => [111, 116, 104, 101, 114, 115]
  | 19 => [108, 101, 116, 115]
  | 20 => [110, 111, 116]
  | 21 => [97, 110, 100]
  | 22 => [111, 114]
  | 23 => [115, 110, 111, 119, 121]
  | 24 => [32, 112, 108, 97, 110, 107, 115, 32, 98, 101, 97, 114, 32, 112, 108, 97, 110, 107, 32, 98, 101, 97, 114, 115, 32, 112, 101, 114, 115, 111, 110, 32, 97, 116, 32, 111, 119, 101, 115, 32, 116, 111, 32, 111, 102, 32, 119, 101, 105, 103, 104, 115, 32, 108, 101, 116, 115, 32, 115, 110, 111, 119, 121, 32, 100, 97, 121, 32, 119, 104, 111, 32, 115, 110, 111, 119, 32, 100, 101, 98, 116, 32, 112, 97, 112, 101, 114, 115, 32, 111, 119, 101, 100, 32, 119, 101, 105, 103, 104, 116, 32, 111, 116, 104, 101, 114, 115, 32, 97, 110, 100, 32, 111, 114, 32, 110, 111, 116, 32]
  | _ => []
def NSTR : Nat := 25
def STT : List (Nat × Nat × Nat) := [(4, 74, 0), (4, 107, 1), (4, 115, 2), (4, 131, 3), (4, 166, 4), (4, 136, 5), (4, 170, 6), (4, 141, 7), (4, 175, 8), (4, 177, 9), (4, 146, 10), (4, 229, 11), (4, 161, 12), (4, 231, 13), (4, 233, 14), (4, 235, 15), (4, 237, 16), (4, 239, 17), (4, 241, 18), (4, 151, 19), (4, 215, 20), (4, 213, 21), (4, 204, 22), (4, 156, 23), (12, 74, 24), (12, 112, 0)]
set_option maxRecDepth 100000 in
theorem str_in : ∀ w ∈ STT.map (fun e => Cond.stringRef (cnm e.1) e.2.1 (stx e.2.2)), w ∈ lw_tbl := subl_in _ _ (by decide +kernel)
def sfl (k : Nat) : Nat × String × String × String := match k with
  | 0 => (9, "java/lang/String", "value", "[B")
  | 1 => (15, "java/lang/String", "coder", "B")
  | 2 => (38, "java/lang/String", "COMPACT_STRINGS", "Z")
  | _ => (1053, "jdk/internal/util/Preconditions", "SIOOBE_FORMATTER", "Ljava/util/function/BiFunction;")
set_option maxRecDepth 100000 in
theorem sfl_in : ∀ w ∈ ([2, 3, 1, 0] : List Nat).map (fun k => Cond.fieldLink "java/lang/String" (sfl k).1 (sfl k).2.1 (sfl k).2.2.1 (sfl k).2.2.2), w ∈ tbg := tbg_sub _ (by decide +kernel) (by decide +kernel)
