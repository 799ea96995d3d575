/-! aq: the cells that both constructors make, and where each lies among them (written by wip/whole/startgen.py) -/
abbrev ci (z : Int) : AV := .inl z
abbrev cj (z : Int) : AV := .inr (.inl z)
abbrev cr (n : Nat) : AV := .inr (.inr (some (70, n)))
abbrev cO (k : Nat) (l : List AV) : CE := .inl (k, l)
abbrev cA (t n : Nat) (w : List (Nat × AV)) : CE := .inr (t, n, w)
def C1 : List CE := [cO 11 [(cr 1), (cr 2), (cr 10), (cr 25), (cr 40), (cr 41), (cr 42), (cr 88), (cr 93), (cr 98), (cr 101), (cr 102), (cr 103), (ci (0))], cA 1 900 [], cO 4 [(cr 1), (cr 3), (ci (0)), (ci (0)), (ci (0)), (ci (0)), (ci (0)), (ci (0)), (ci (0)), (cr 4), (ci (0)), (ci (-1))], cA 0 900 [], cO 3 [(cr 5), (cr 6), (cr 7), (cr 8), (cr 9), (ci (1)), (ci (0)), (ci (0)), (ci (0)), (ci (0))], cA 0 8 [], cA 0 6 [], cA 0 36 [], cA 0 0 [], cA 0 0 [], cO 10 [(cr 11), (cr 15), (cr 18), (cr 19)], cO 7 [(cr 12), (cr 13), (cr 14), (ci (0)), (ci (0)), (ci (0)), (ci (0))], cA 0 6 [], cA 0 36 [], cA 0 8 [], cO 5 [(cr 16), (cr 17)], cA 0 64 [], cA 0 9 [], cA 0 6 [], cO 3 [(cr 20), (cr 21), (cr 22), (cr 23), (cr 24), (ci (1)), (ci (0)), (ci (0)), (ci (0)), (ci (0))], cA 0 8 [], cA 0 6 [], cA 0 36 [], cA 0 0 [], cA 0 0 [], cO 10 [(cr 26), (cr 30), (cr 33), (cr 34)], cO 7 [(cr 27), (cr 28), (cr 29), (ci (0)), (ci (0)), (ci (0)), (ci (0))], cA 0 6 [], cA 0 36 [], cA 0 8 [], cO 5 [(cr 31), (cr 32)], cA 0 64 [], cA 0 9 [], cA 0 6 [], cO 3 [(cr 35), (cr 36), (cr 37), (cr 38), (cr 39), (ci (1)), (ci (0)), (ci (0)), (ci (0)), (ci (0))], cA 0 8 [], cA 0 6 [], cA 0 36 [], cA 0 0 [], cA 0 0 [], cO 0 [(cr 10), (ci (0)), (ci (0))], cO 0 [(cr 25), (ci (0)), (ci (0))], cO 2 [(cr 43), (ci (0)), (ci (0))], cA 6 11 [(10, (cr 84)), (9, (cr 80)), (8, (cr 76)), (7, (cr 72)), (6, (cr 68)), (5, (cr 64)), (4, (cr 60)), (3, (cr 56)), (2, (cr 52)), (1, (cr 48)), (0, (cr 44))], cO 7 [(cr 45), (cr 46), (cr 47), (ci (0)), (ci (0)), (ci (0)), (ci (0))], cA 0 6 [], cA 0 36 [], cA 0 8 [], cO 7 [(cr 49), (cr 50), (cr 51), (ci (0)), (ci (0)), (ci (0)), (ci (0))], cA 0 6 [], cA 0 36 [], cA 0 8 [], cO 7 [(cr 53), (cr 54), (cr 55), (ci (0)), (ci (0)), (ci (0)), (ci (0))], cA 0 6 [], cA 0 36 [], cA 0 8 [], cO 7 [(cr 57), (cr 58), (cr 59), (ci (0)), (ci (0)), (ci (0)), (ci (0))], cA 0 6 [], cA 0 36 [], cA 0 8 [], cO 7 [(cr 61), (cr 62), (cr 63), (ci (0)), (ci (0)), (ci (0)), (ci (0))], cA 0 6 [], cA 0 36 [], cA 0 8 [], cO 7 [(cr 65), (cr 66), (cr 67), (ci (0)), (ci (0)), (ci (0)), (ci (0))], cA 0 6 [], cA 0 36 [], cA 0 8 [], cO 7 [(cr 69), (cr 70), (cr 71), (ci (0)), (ci (0)), (ci (0)), (ci (0))], cA 0 6 [], cA 0 36 [], cA 0 8 [], cO 7 [(cr 73), (cr 74), (cr 75), (ci (0)), (ci (0)), (ci (0)), (ci (0))], cA 0 6 [], cA 0 36 [], cA 0 8 [], cO 7 [(cr 77), (cr 78), (cr 79), (ci (0)), (ci (0)), (ci (0)), (ci (0))], cA 0 6 [], cA 0 36 [], cA 0 8 [], cO 7 [(cr 81), (cr 82), (cr 83), (ci (0)), (ci (0)), (ci (0)), (ci (0))], cA 0 6 [], cA 0 36 [], cA 0 8 [], cO 7 [(cr 85), (cr 86), (cr 87), (ci (0)), (ci (0)), (ci (0)), (ci (0))], cA 0 6 [], cA 0 36 [], cA 0 8 [], cO 6 [(cr 10), (cr 89), (cr 90), (cr 91), (cr 92), (ci (0))], cA 0 6 [], cA 0 6 [], cA 0 6 [], cA 0 8 [], cO 1 [(cr 10), (cr 94), (cr 95), (cr 96), (cr 97), (ci (0)), (ci (0)), (ci (0))], cA 0 6 [], cA 0 6 [], cA 0 6 [], cA 0 64 [], cO 9 [(cr 10), (cr 25), (cr 99), (cr 100), (ci (0)), (ci (0)), (cj 1), (cj 1)], cA 0 30 [], cA 0 180 [], cA 4 4 [(3, (cr 110)), (2, (cr 108)), (1, (cr 106)), (0, (cr 104))], cA 5 2 [(1, (cr 127)), (0, (cr 112))], cA 2 2 [], cO 8 [(cr 105), (ci (1)), (ci (0)), (ci (0))], cA 3 40 [], cO 8 [(cr 107), (ci (1)), (ci (0)), (ci (0))], cA 3 40 [], cO 8 [(cr 109), (ci (1)), (ci (0)), (ci (0))], cA 3 40 [], cO 8 [(cr 111), (ci (1)), (ci (0)), (ci (0))], cA 3 40 [], cO 10 [(cr 113), (cr 117), (cr 120), (cr 121)], cO 7 [(cr 114), (cr 115), (cr 116), (ci (0)), (ci (0)), (ci (0)), (ci (0))], cA 0 6 [], cA 0 36 [], cA 0 8 [], cO 5 [(cr 118), (cr 119)], cA 0 64 [], cA 0 9 [], cA 0 6 [], cO 3 [(cr 122), (cr 123), (cr 124), (cr 125), (cr 126), (ci (1)), (ci (0)), (ci (0)), (ci (0)), (ci (0))], cA 0 8 [], cA 0 6 [], cA 0 36 [], cA 0 0 [], cA 0 0 [], cO 10 [(cr 128), (cr 132), (cr 135), (cr 136)], cO 7 [(cr 129), (cr 130), (cr 131), (ci (0)), (ci (0)), (ci (0)), (ci (0))], cA 0 6 [], cA 0 36 [], cA 0 8 [], cO 5 [(cr 133), (cr 134)], cA 0 64 [], cA 0 9 [], cA 0 6 [], cO 3 [(cr 137), (cr 138), (cr 139), (cr 140), (cr 141), (ci (1)), (ci (0)), (ci (0)), (ci (0)), (ci (0))], cA 0 8 [], cA 0 6 [], cA 0 36 [], cA 0 0 [], cA 0 0 []]
def C2 : List CE := C1 ++ [cO 12 [(ci (0)), (cr 143), (cr 144), (cr 145), (cr 146), (ci (0)), (ci (0)), (ci (0)), (ci (0)), (ci (0)), (ci (0)), (ci (0)), (ci (0)), (ci (0)), (ci (-1)), (ci (0)), (cr 147), (cr 148), (cr 149), (cr 150), (cr 151), (ci (0)), (ci (0)), (cr 152), (ci (0)), (cr 153), (ci (0)), (ci (0)), (ci (0)), (cr 154), (cr 155), (cr 156), (cr 157)], cA 0 4542 [], cA 2 2 [], cA 0 900 [], cA 0 1514 [], cA 0 900 [], cA 0 9 [], cA 0 8 [], cA 0 54 [], cA 0 6 [], cA 0 6 [], cA 0 6 [], cA 0 360 [], cA 0 4 [(3, (ci (-1))), (2, (ci (-1))), (1, (ci (-1))), (0, (ci (-1)))], cA 0 4 [], cA 3 160 []]
set_option maxRecDepth 100000 in
theorem C1_run : exC 20000 8 11 0 (ent (cL 11) [.inr (.inr (some (70, 0)))]) [] [.inl (11, dfC 11)] 0 0 = some C1 := isC_of (by decide +kernel)
set_option maxRecDepth 100000 in
theorem C1_wf : C1.all (wfE C1.length) = true := by decide +kernel
def isP (a : Option (List AV × List AV × List CE × Nat × Nat)) (b : List AV × List AV × List CE × Nat × Nat) : Bool := match a with
  | some x => eqL2 eqV x.1 b.1 && eqL2 eqV x.2.1 b.2.1 && eqL2 eqE x.2.2.1 b.2.2.1 && x.2.2.2.1 == b.2.2.2.1 && x.2.2.2.2 == b.2.2.2.2
  | none => false
theorem isP_of {a : Option (List AV × List AV × List CE × Nat × Nat)} {b : List AV × List AV × List CE × Nat × Nat} (h : isP a b = true) : a = some b := by
  cases a with
  | none => cases h
  | some x =>
    obtain ⟨x1, x2, x3, x4, x5⟩ := x
    obtain ⟨b1, b2, b3, b4, b5⟩ := b
    simp only [isP, Bool.and_eq_true, beq_iff_eq] at h
    obtain ⟨⟨⟨⟨h1, h2⟩, h3⟩, h4⟩, h5⟩ := h
    rw [eqL2_of (fun _ _ => eqV_of) h1, eqL2_of (fun _ _ => eqV_of) h2, eqL2_of (fun _ _ => eqE_of) h3, h4, h5]
set_option maxRecDepth 100000 in
theorem C2_run : exP 152 300 12 0 (ent (cL 12) [.inr (.inr (some (70, 142)))]) [] (C1 ++ [.inl (12, dfC 12)]) 0 0 = some ([.inr (.inr (some (70, 142)))], [.inr (.inr (some (70, 143)))], C2, 15, 8475) := isP_of (by decide +kernel)
/-- where the i-th cell of a kind lies -/
def ixL (K : Nat) : List Nat := match K with
  | 0 => [40, 41]
  | 1 => [93]
  | 2 => [42]
  | 3 => [19, 34, 121, 136, 4]
  | 4 => [2]
  | 5 => [15, 30, 117, 132]
  | 6 => [88]
  | 7 => [11, 26, 113, 128, 44, 48, 52, 56, 60, 64, 68, 72, 76, 80, 84]
  | 8 => [104, 106, 108, 110]
  | 9 => [98]
  | 10 => [10, 25, 112, 127]
  | 11 => [0]
  | 12 => [142]
  | 16 => [94]
  | 17 => [95]
  | 18 => [96]
  | 19 => [97]
  | 20 => [43]
  | 21 => [20, 35, 122, 137, 5]
  | 22 => [21, 36, 123, 138, 6]
  | 23 => [22, 37, 124, 139, 7]
  | 24 => [23, 38, 125, 140, 8]
  | 25 => [24, 39, 126, 141, 9]
  | 26 => [3]
  | 27 => [16, 31, 118, 133]
  | 28 => [17, 32, 119, 134]
  | 29 => [89]
  | 30 => [90]
  | 31 => [91]
  | 32 => [92]
  | 33 => [12, 27, 114, 129, 45, 49, 53, 57, 61, 65, 69, 73, 77, 81, 85]
  | 34 => [13, 28, 115, 130, 46, 50, 54, 58, 62, 66, 70, 74, 78, 82, 86]
  | 35 => [14, 29, 116, 131, 47, 51, 55, 59, 63, 67, 71, 75, 79, 83, 87]
  | 36 => [105, 107, 109, 111]
  | 37 => [99]
  | 38 => [100]
  | 39 => [18, 33, 120, 135]
  | 40 => [1]
  | 41 => [101]
  | 42 => [102]
  | 43 => [103]
  | 44 => [143]
  | 45 => [144]
  | 46 => [145]
  | 47 => [146]
  | 48 => [147]
  | 49 => [148]
  | 50 => [149]
  | 51 => [150]
  | 52 => [151]
  | 53 => [152]
  | 54 => [153]
  | 55 => [154]
  | 56 => [155]
  | 57 => [156]
  | 58 => [157]
  | _ => []
def ixC (K i : Nat) : Nat := (ixL K).getD i 999
