/-! a7: the code of the law, resolved (written by wip/whole/acode.py) -/
def b_LAW (t : Nat) : List Instr := match t with
  | 18 => [.goto_w 18]
  | 228 => [.goto_w 228]
  | 291 => [.goto_w 291]
  | 314 => [.goto_w 314]
  | 337 => [.goto_w 337]
  | 370 => [.goto_w 370]
  | 403 => [.goto_w 403]
  | 436 => [.goto_w 436]
  | 459 => [.goto_w 459]
  | 477 => [.goto_w 477]
  | 478 => [.goto_w 478]
  | 499 => [.goto_w 499]
  | 500 => [.goto_w 500]
  | 508 => [.goto_w 508]
  | 541 => [.goto_w 541]
  | 574 => [.goto_w 574]
  | 597 => [.goto_w 597]
  | 620 => [.goto_w 620]
  | 643 => [.goto_w 643]
  | 666 => [.goto_w 666]
  | 699 => [.goto_w 699]
  | 722 => [.goto_w 722]
  | 755 => [.goto_w 755]
  | 778 => [.goto_w 778]
  | 791 => [.goto_w 791]
  | 824 => [.goto_w 824]
  | 847 => [.goto_w 847]
  | 880 => [.goto_w 880]
  | 903 => [.goto_w 903]
  | 936 => [.goto_w 936]
  | 959 => [.goto_w 959]
  | 972 => [.goto_w 972]
  | 985 => [.goto_w 985]
  | 998 => [.goto_w 998]
  | 1021 => [.goto_w 1021]
  | 1034 => [.goto_w 1034]
  | 1047 => [.goto_w 1047]
  | 1070 => [.goto_w 1070]
  | 1103 => [.goto_w 1103]
  | 1116 => [.goto_w 1116]
  | 1139 => [.goto_w 1139]
  | 1172 => [.goto_w 1172]
  | 1195 => [.goto_w 1195]
  | 1239 => [.goto_w 1239]
  | 1272 => [.goto_w 1272]
  | 1315 => [.goto_w 1315]
  | 1389 => [.goto_w 1389]
  | 1412 => [.goto_w 1412]
  | 1435 => [.goto_w 1435]
  | 1458 => [.goto_w 1458]
  | 1481 => [.goto_w 1481]
  | 1487 => [.goto_w 1487]
  | _ => []
theorem k_LAW : ∀ t, boA (mC 315) (mB 315) (mL 315) t (b_LAW t) = true := by
  intro t
  unfold b_LAW
  split
  all_goals first | decide +kernel | rfl
theorem r_LAW : mR 315 = (some .boolean) := by decide +kernel
def h_LAW_16 : List Instr := [.sipush 0, .istore 3, .jsr 18]
theorem hk_LAW_16 : boA (mC 315) (mB 315) (mL 315) 16 h_LAW_16 = true := by decide +kernel
def h_LAW_18 : List Instr := [.iload 3, .aload 0, .caload, .sipush 6, .isub, .if_icmp .gt 1487, .aload 0, .iload 3, .faload, .sipush 63, .iand, .tableswitch 1481 0 44 #[228, 291, 314, 337, 370, 403, 436, 459, 508, 541, 574, 597, 620, 643, 666, 699, 722, 755, 778, 791, 824, 847, 880, 903, 936, 959, 972, 985, 998, 1021, 1034, 1047, 1070, 1103, 1116, 1139, 1172, 1195, 1239, 1272, 1315, 1389, 1412, 1435, 1458]]
theorem hk_LAW_18 : boA (mC 315) (mB 315) (mL 315) 18 h_LAW_18 = true := by decide +kernel
def h_LAW_228 : List Instr := [.aload 1, .aload 0, .iload 3, .sipush 1, .iadd, .faload, .aload 0, .iload 3, .sipush 2, .iadd, .faload, .aload 0, .iload 3, .sipush 3, .iadd, .faload, .aload 0, .iload 3, .sipush 4, .iadd, .faload, .aload 0, .iload 3, .sipush 5, .iadd, .faload, .invokeinterface 1707 5, .aload 2, .aload 0, .iload 3, .sipush 1, .iadd, .faload, .aload 0, .iload 3, .sipush 2, .iadd, .faload, .aload 0, .iload 3, .sipush 3, .iadd, .faload, .aload 0, .iload 3, .sipush 4, .iadd, .faload, .aload 0, .iload 3, .sipush 5, .iadd, .faload, .invokeinterface 2572 5, .if_icmp .eq 1481, .sipush 0, .ireturn]
theorem hk_LAW_228 : boA (mC 315) (mB 315) (mL 315) 228 h_LAW_228 = true := by decide +kernel
def h_LAW_291 : List Instr := [.aload 1, .aload 0, .iload 3, .sipush 1, .iadd, .faload, .invokespecial 1739, .aload 2, .aload 0, .iload 3, .sipush 1, .iadd, .faload, .invokeinterface 2588 1, .if_icmp .eq 1481, .sipush 0, .ireturn]
theorem hk_LAW_291 : boA (mC 315) (mB 315) (mL 315) 291 h_LAW_291 = true := by decide +kernel
def h_LAW_314 : List Instr := [.aload 1, .aload 0, .iload 3, .sipush 1, .iadd, .faload, .invokeinterface 1755 1, .aload 2, .aload 0, .iload 3, .sipush 1, .iadd, .faload, .invokeinterface 3228 1, .if_icmp .eq 1481, .sipush 0, .ireturn]
theorem hk_LAW_314 : boA (mC 315) (mB 315) (mL 315) 314 h_LAW_314 = true := by decide +kernel
def h_LAW_337 : List Instr := [.aload 1, .aload 0, .iload 3, .sipush 1, .iadd, .faload, .aload 0, .iload 3, .sipush 2, .iadd, .faload, .invokeinterface 1771 2, .aload 2, .aload 0, .iload 3, .sipush 1, .iadd, .faload, .aload 0, .iload 3, .sipush 2, .iadd, .faload, .invokeinterface 3244 2, .if_icmp .eq 1481, .sipush 0, .ireturn]
theorem hk_LAW_337 : boA (mC 315) (mB 315) (mL 315) 337 h_LAW_337 = true := by decide +kernel
def h_LAW_370 : List Instr := [.aload 1, .aload 0, .iload 3, .sipush 1, .iadd, .faload, .aload 0, .iload 3, .sipush 2, .iadd, .faload, .invokeinterface 1787 2, .aload 2, .aload 0, .iload 3, .sipush 1, .iadd, .faload, .aload 0, .iload 3, .sipush 2, .iadd, .faload, .invokeinterface 3276 2, .if_icmp .eq 1481, .sipush 0, .ireturn]
theorem hk_LAW_370 : boA (mC 315) (mB 315) (mL 315) 370 h_LAW_370 = true := by decide +kernel
def h_LAW_403 : List Instr := [.aload 1, .aload 0, .iload 3, .sipush 1, .iadd, .faload, .aload 0, .iload 3, .sipush 2, .iadd, .faload, .invokeinterface 1803 2, .aload 2, .aload 0, .iload 3, .sipush 1, .iadd, .faload, .aload 0, .iload 3, .sipush 2, .iadd, .faload, .invokeinterface 3292 2, .if_icmp .eq 1481, .sipush 0, .ireturn]
theorem hk_LAW_403 : boA (mC 315) (mB 315) (mL 315) 403 h_LAW_403 = true := by decide +kernel
def h_LAW_436 : List Instr := [.aload 1, .aload 0, .iload 3, .sipush 1, .iadd, .faload, .invokeinterface 1819 1, .aload 2, .aload 0, .iload 3, .sipush 1, .iadd, .faload, .invokeinterface 3324 1, .if_icmp .eq 1481, .sipush 0, .ireturn]
theorem hk_LAW_436 : boA (mC 315) (mB 315) (mL 315) 436 h_LAW_436 = true := by decide +kernel
def h_LAW_459 : List Instr := [.aload 1, .aload 0, .iload 3, .sipush 1, .iadd, .faload, .aload 0, .iload 3, .sipush 2, .iadd, .faload, .ifCond .eq 477, .sipush 1, .goto 478]
theorem hk_LAW_459 : boA (mC 315) (mB 315) (mL 315) 459 h_LAW_459 = true := by decide +kernel
def h_LAW_477 : List Instr := [.sipush 0, .jsr 478]
theorem hk_LAW_477 : boA (mC 315) (mB 315) (mL 315) 477 h_LAW_477 = true := by decide +kernel
def h_LAW_478 : List Instr := [.invokeinterface 1835 2, .aload 2, .aload 0, .iload 3, .sipush 1, .iadd, .faload, .aload 0, .iload 3, .sipush 2, .iadd, .faload, .ifCond .eq 499, .sipush 1, .goto 500]
theorem hk_LAW_478 : boA (mC 315) (mB 315) (mL 315) 478 h_LAW_478 = true := by decide +kernel
def h_LAW_499 : List Instr := [.sipush 0, .jsr 500]
theorem hk_LAW_499 : boA (mC 315) (mB 315) (mL 315) 499 h_LAW_499 = true := by decide +kernel
def h_LAW_500 : List Instr := [.invokeinterface 3372 2, .if_icmp .eq 1481, .sipush 0, .ireturn]
theorem hk_LAW_500 : boA (mC 315) (mB 315) (mL 315) 500 h_LAW_500 = true := by decide +kernel
def h_LAW_508 : List Instr := [.aload 1, .aload 0, .iload 3, .sipush 1, .iadd, .faload, .aload 0, .iload 3, .sipush 2, .iadd, .faload, .invokeinterface 1867 2, .aload 2, .aload 0, .iload 3, .sipush 1, .iadd, .faload, .aload 0, .iload 3, .sipush 2, .iadd, .faload, .invokeinterface 3516 2, .if_icmp .eq 1481, .sipush 0, .ireturn]
theorem hk_LAW_508 : boA (mC 315) (mB 315) (mL 315) 508 h_LAW_508 = true := by decide +kernel
def h_LAW_541 : List Instr := [.aload 1, .aload 0, .iload 3, .sipush 1, .iadd, .faload, .aload 0, .iload 3, .sipush 2, .iadd, .faload, .invokeinterface 1883 2, .aload 2, .aload 0, .iload 3, .sipush 1, .iadd, .faload, .aload 0, .iload 3, .sipush 2, .iadd, .faload, .invokeinterface 3580 2, .if_icmp .eq 1481, .sipush 0, .ireturn]
theorem hk_LAW_541 : boA (mC 315) (mB 315) (mL 315) 541 h_LAW_541 = true := by decide +kernel
def h_LAW_574 : List Instr := [.aload 1, .aload 0, .iload 3, .sipush 1, .iadd, .faload, .invokeinterface 1899 1, .aload 2, .aload 0, .iload 3, .sipush 1, .iadd, .faload, .invokeinterface 3628 1, .if_icmp .eq 1481, .sipush 0, .ireturn]
theorem hk_LAW_574 : boA (mC 315) (mB 315) (mL 315) 574 h_LAW_574 = true := by decide +kernel
def h_LAW_597 : List Instr := [.aload 1, .aload 0, .iload 3, .sipush 1, .iadd, .faload, .invokeinterface 1947 1, .aload 2, .aload 0, .iload 3, .sipush 1, .iadd, .faload, .invokeinterface 3692 1, .if_icmp .eq 1481, .sipush 0, .ireturn]
theorem hk_LAW_597 : boA (mC 315) (mB 315) (mL 315) 597 h_LAW_597 = true := by decide +kernel
def h_LAW_620 : List Instr := [.aload 1, .aload 0, .iload 3, .sipush 1, .iadd, .faload, .invokeinterface 1963 1, .aload 2, .aload 0, .iload 3, .sipush 1, .iadd, .faload, .invokeinterface 3740 1, .if_icmp .eq 1481, .sipush 0, .ireturn]
theorem hk_LAW_620 : boA (mC 315) (mB 315) (mL 315) 620 h_LAW_620 = true := by decide +kernel
def h_LAW_643 : List Instr := [.aload 1, .aload 0, .iload 3, .sipush 1, .iadd, .faload, .invokeinterface 1979 1, .aload 2, .aload 0, .iload 3, .sipush 1, .iadd, .faload, .invokeinterface 3788 1, .if_icmp .eq 1481, .sipush 0, .ireturn]
theorem hk_LAW_643 : boA (mC 315) (mB 315) (mL 315) 643 h_LAW_643 = true := by decide +kernel
def h_LAW_666 : List Instr := [.aload 1, .aload 0, .iload 3, .sipush 1, .iadd, .faload, .aload 0, .iload 3, .sipush 2, .iadd, .faload, .invokeinterface 1995 2, .aload 2, .aload 0, .iload 3, .sipush 1, .iadd, .faload, .aload 0, .iload 3, .sipush 2, .iadd, .faload, .invokeinterface 3804 2, .if_icmp .eq 1481, .sipush 0, .ireturn]
theorem hk_LAW_666 : boA (mC 315) (mB 315) (mL 315) 666 h_LAW_666 = true := by decide +kernel
def h_LAW_699 : List Instr := [.aload 1, .aload 0, .iload 3, .sipush 1, .iadd, .faload, .invokeinterface 2011 1, .aload 2, .aload 0, .iload 3, .sipush 1, .iadd, .faload, .invokeinterface 3916 1, .if_icmp .eq 1481, .sipush 0, .ireturn]
theorem hk_LAW_699 : boA (mC 315) (mB 315) (mL 315) 699 h_LAW_699 = true := by decide +kernel
def h_LAW_722 : List Instr := [.aload 1, .aload 0, .iload 3, .sipush 1, .iadd, .faload, .aload 0, .iload 3, .sipush 2, .iadd, .faload, .invokeinterface 2027 2, .aload 2, .aload 0, .iload 3, .sipush 1, .iadd, .faload, .aload 0, .iload 3, .sipush 2, .iadd, .faload, .invokeinterface 3932 2, .if_icmp .eq 1481, .sipush 0, .ireturn]
theorem hk_LAW_722 : boA (mC 315) (mB 315) (mL 315) 722 h_LAW_722 = true := by decide +kernel
def h_LAW_755 : List Instr := [.aload 1, .aload 0, .iload 3, .sipush 1, .iadd, .faload, .invokeinterface 2043 1, .aload 2, .aload 0, .iload 3, .sipush 1, .iadd, .faload, .invokeinterface 3964 1, .if_icmp .eq 1481, .sipush 0, .ireturn]
theorem hk_LAW_755 : boA (mC 315) (mB 315) (mL 315) 755 h_LAW_755 = true := by decide +kernel
def h_LAW_778 : List Instr := [.aload 1, .invokeinterface 2059 0, .aload 2, .invokeinterface 4012 0, .if_icmp .eq 1481, .sipush 0, .ireturn]
theorem hk_LAW_778 : boA (mC 315) (mB 315) (mL 315) 778 h_LAW_778 = true := by decide +kernel
def h_LAW_791 : List Instr := [.aload 1, .aload 0, .iload 3, .sipush 1, .iadd, .faload, .aload 0, .iload 3, .sipush 2, .iadd, .faload, .invokeinterface 2075 2, .aload 2, .aload 0, .iload 3, .sipush 1, .iadd, .faload, .aload 0, .iload 3, .sipush 2, .iadd, .faload, .invokeinterface 4044 2, .if_icmp .eq 1481, .sipush 0, .ireturn]
theorem hk_LAW_791 : boA (mC 315) (mB 315) (mL 315) 791 h_LAW_791 = true := by decide +kernel
def h_LAW_824 : List Instr := [.aload 1, .aload 0, .iload 3, .sipush 1, .iadd, .faload, .invokeinterface 2091 1, .aload 2, .aload 0, .iload 3, .sipush 1, .iadd, .faload, .invokeinterface 4076 1, .if_icmp .eq 1481, .sipush 0, .ireturn]
theorem hk_LAW_824 : boA (mC 315) (mB 315) (mL 315) 824 h_LAW_824 = true := by decide +kernel
def h_LAW_847 : List Instr := [.aload 1, .aload 0, .iload 3, .sipush 1, .iadd, .faload, .aload 0, .iload 3, .sipush 2, .iadd, .faload, .invokeinterface 2107 2, .aload 2, .aload 0, .iload 3, .sipush 1, .iadd, .faload, .aload 0, .iload 3, .sipush 2, .iadd, .faload, .invokeinterface 4108 2, .if_icmp .eq 1481, .sipush 0, .ireturn]
theorem hk_LAW_847 : boA (mC 315) (mB 315) (mL 315) 847 h_LAW_847 = true := by decide +kernel
def h_LAW_880 : List Instr := [.aload 1, .aload 0, .iload 3, .sipush 1, .iadd, .faload, .invokeinterface 2139 1, .aload 2, .aload 0, .iload 3, .sipush 1, .iadd, .faload, .invokeinterface 4172 1, .if_icmp .eq 1481, .sipush 0, .ireturn]
theorem hk_LAW_880 : boA (mC 315) (mB 315) (mL 315) 880 h_LAW_880 = true := by decide +kernel
def h_LAW_903 : List Instr := [.aload 1, .aload 0, .iload 3, .sipush 1, .iadd, .faload, .aload 0, .iload 3, .sipush 2, .iadd, .faload, .invokeinterface 2155 2, .aload 2, .aload 0, .iload 3, .sipush 1, .iadd, .faload, .aload 0, .iload 3, .sipush 2, .iadd, .faload, .invokeinterface 4188 2, .if_icmp .eq 1481, .sipush 0, .ireturn]
theorem hk_LAW_903 : boA (mC 315) (mB 315) (mL 315) 903 h_LAW_903 = true := by decide +kernel
def h_LAW_936 : List Instr := [.aload 1, .aload 0, .iload 3, .sipush 1, .iadd, .faload, .invokeinterface 2171 1, .aload 2, .aload 0, .iload 3, .sipush 1, .iadd, .faload, .invokeinterface 4204 1, .if_icmp .eq 1481, .sipush 0, .ireturn]
theorem hk_LAW_936 : boA (mC 315) (mB 315) (mL 315) 936 h_LAW_936 = true := by decide +kernel
def h_LAW_959 : List Instr := [.aload 1, .invokeinterface 2187 0, .aload 2, .invokeinterface 4236 0, .if_icmp .eq 1481, .sipush 0, .ireturn]
theorem hk_LAW_959 : boA (mC 315) (mB 315) (mL 315) 959 h_LAW_959 = true := by decide +kernel
def h_LAW_972 : List Instr := [.aload 1, .invokeinterface 2203 0, .aload 2, .invokeinterface 4252 0, .if_icmp .eq 1481, .sipush 0, .ireturn]
theorem hk_LAW_972 : boA (mC 315) (mB 315) (mL 315) 972 h_LAW_972 = true := by decide +kernel
def h_LAW_985 : List Instr := [.aload 1, .invokeinterface 2219 0, .aload 2, .invokeinterface 4300 0, .if_icmp .eq 1481, .sipush 0, .ireturn]
theorem hk_LAW_985 : boA (mC 315) (mB 315) (mL 315) 985 h_LAW_985 = true := by decide +kernel
def h_LAW_998 : List Instr := [.aload 1, .aload 0, .iload 3, .sipush 1, .iadd, .faload, .invokeinterface 2235 1, .aload 2, .aload 0, .iload 3, .sipush 1, .iadd, .faload, .invokeinterface 4364 1, .if_icmp .eq 1481, .sipush 0, .ireturn]
theorem hk_LAW_998 : boA (mC 315) (mB 315) (mL 315) 998 h_LAW_998 = true := by decide +kernel
def h_LAW_1021 : List Instr := [.aload 1, .invokeinterface 2251 0, .aload 2, .invokeinterface 4380 0, .if_icmp .eq 1481, .sipush 0, .ireturn]
theorem hk_LAW_1021 : boA (mC 315) (mB 315) (mL 315) 1021 h_LAW_1021 = true := by decide +kernel
def h_LAW_1034 : List Instr := [.aload 1, .invokeinterface 2267 0, .aload 2, .invokeinterface 4396 0, .if_icmp .eq 1481, .sipush 0, .ireturn]
theorem hk_LAW_1034 : boA (mC 315) (mB 315) (mL 315) 1034 h_LAW_1034 = true := by decide +kernel
def h_LAW_1047 : List Instr := [.aload 1, .aload 0, .iload 3, .sipush 1, .iadd, .faload, .invokeinterface 2283 1, .aload 2, .aload 0, .iload 3, .sipush 1, .iadd, .faload, .invokeinterface 4412 1, .if_icmp .eq 1481, .sipush 0, .ireturn]
theorem hk_LAW_1047 : boA (mC 315) (mB 315) (mL 315) 1047 h_LAW_1047 = true := by decide +kernel
def h_LAW_1070 : List Instr := [.aload 1, .aload 0, .iload 3, .sipush 1, .iadd, .faload, .aload 0, .iload 3, .sipush 2, .iadd, .faload, .invokeinterface 2331 2, .aload 2, .aload 0, .iload 3, .sipush 1, .iadd, .faload, .aload 0, .iload 3, .sipush 2, .iadd, .faload, .invokeinterface 4460 2, .if_icmp .eq 1481, .sipush 0, .ireturn]
theorem hk_LAW_1070 : boA (mC 315) (mB 315) (mL 315) 1070 h_LAW_1070 = true := by decide +kernel
def h_LAW_1103 : List Instr := [.aload 1, .invokeinterface 2347 0, .aload 2, .invokeinterface 4476 0, .if_icmp .eq 1481, .sipush 0, .ireturn]
theorem hk_LAW_1103 : boA (mC 315) (mB 315) (mL 315) 1103 h_LAW_1103 = true := by decide +kernel
def h_LAW_1116 : List Instr := [.aload 1, .aload 0, .iload 3, .sipush 1, .iadd, .faload, .invokeinterface 2363 1, .aload 2, .aload 0, .iload 3, .sipush 1, .iadd, .faload, .invokeinterface 4492 1, .if_icmp .eq 1481, .sipush 0, .ireturn]
theorem hk_LAW_1116 : boA (mC 315) (mB 315) (mL 315) 1116 h_LAW_1116 = true := by decide +kernel
def h_LAW_1139 : List Instr := [.aload 1, .aload 0, .iload 3, .sipush 1, .iadd, .faload, .aload 0, .iload 3, .sipush 2, .iadd, .faload, .invokeinterface 2395 2, .aload 2, .aload 0, .iload 3, .sipush 1, .iadd, .faload, .aload 0, .iload 3, .sipush 2, .iadd, .faload, .invokeinterface 4540 2, .if_icmp .eq 1481, .sipush 0, .ireturn]
theorem hk_LAW_1139 : boA (mC 315) (mB 315) (mL 315) 1139 h_LAW_1139 = true := by decide +kernel
def h_LAW_1172 : List Instr := [.aload 1, .aload 0, .iload 3, .sipush 1, .iadd, .faload, .invokeinterface 2411 1, .aload 2, .aload 0, .iload 3, .sipush 1, .iadd, .faload, .invokeinterface 4556 1, .if_icmp .eq 1481, .sipush 0, .ireturn]
theorem hk_LAW_1172 : boA (mC 315) (mB 315) (mL 315) 1172 h_LAW_1172 = true := by decide +kernel
def h_LAW_1195 : List Instr := [.aload 1, .aload 0, .iload 3, .sipush 1, .iadd, .faload, .aload 0, .iload 3, .sipush 2, .iadd, .faload, .aload 0, .iload 3, .sipush 3, .iadd, .faload, .invokeinterface 2427 3, .aload 2, .aload 0, .iload 3, .sipush 1, .iadd, .faload, .aload 0, .iload 3, .sipush 2, .iadd, .faload, .aload 0, .iload 3, .sipush 3, .iadd, .faload, .invokeinterface 4572 3, .lcmp, .ifCond .eq 1481, .sipush 0, .ireturn]
theorem hk_LAW_1195 : boA (mC 315) (mB 315) (mL 315) 1195 h_LAW_1195 = true := by decide +kernel
def h_LAW_1239 : List Instr := [.aload 1, .aload 0, .iload 3, .sipush 1, .iadd, .faload, .aload 0, .iload 3, .sipush 2, .iadd, .faload, .invokeinterface 2443 2, .aload 2, .aload 0, .iload 3, .sipush 1, .iadd, .faload, .aload 0, .iload 3, .sipush 2, .iadd, .faload, .invokeinterface 4636 2, .if_icmp .eq 1481, .sipush 0, .ireturn]
theorem hk_LAW_1239 : boA (mC 315) (mB 315) (mL 315) 1239 h_LAW_1239 = true := by decide +kernel
def h_LAW_1272 : List Instr := [.aload 1, .aload 0, .iload 3, .sipush 1, .iadd, .faload, .aload 0, .iload 3, .sipush 2, .iadd, .faload, .aload 0, .iload 3, .sipush 3, .iadd, .faload, .invokeinterface 2459 3, .aload 2, .aload 0, .iload 3, .sipush 1, .iadd, .faload, .aload 0, .iload 3, .sipush 2, .iadd, .faload, .aload 0, .iload 3, .sipush 3, .iadd, .faload, .invokeinterface 4652 3, .if_icmp .eq 1481, .sipush 0, .ireturn]
theorem hk_LAW_1272 : boA (mC 315) (mB 315) (mL 315) 1272 h_LAW_1272 = true := by decide +kernel
def h_LAW_1315 : List Instr := [.aload 1, .aload 0, .iload 3, .sipush 1, .iadd, .faload, .aload 0, .iload 3, .sipush 2, .iadd, .faload, .aload 0, .iload 3, .sipush 3, .iadd, .faload, .i2l, .sipush 32, .lshl, .aload 0, .iload 3, .sipush 4, .iadd, .faload, .i2l, .jsr_w 4294967295, .land, .lor, .invokeinterface 2475 3, .aload 2, .aload 0, .iload 3, .sipush 1, .iadd, .faload, .aload 0, .iload 3, .sipush 2, .iadd, .faload, .aload 0, .iload 3, .sipush 3, .iadd, .faload, .i2l, .sipush 32, .lshl, .aload 0, .iload 3, .sipush 4, .iadd, .faload, .i2l, .jsr_w 4294967295, .land, .lor, .invokeinterface 4668 3, .lcmp, .ifCond .eq 1481, .sipush 0, .ireturn]
theorem hk_LAW_1315 : boA (mC 315) (mB 315) (mL 315) 1315 h_LAW_1315 = true := by decide +kernel
def h_LAW_1389 : List Instr := [.aload 1, .aload 0, .iload 3, .sipush 1, .iadd, .faload, .invokeinterface 2491 1, .aload 2, .aload 0, .iload 3, .sipush 1, .iadd, .faload, .invokeinterface 4700 1, .if_icmp .eq 1481, .sipush 0, .ireturn]
theorem hk_LAW_1389 : boA (mC 315) (mB 315) (mL 315) 1389 h_LAW_1389 = true := by decide +kernel
def h_LAW_1412 : List Instr := [.aload 1, .aload 0, .iload 3, .sipush 1, .iadd, .faload, .invokeinterface 2507 1, .aload 2, .aload 0, .iload 3, .sipush 1, .iadd, .faload, .invokeinterface 4716 1, .if_icmp .eq 1481, .sipush 0, .ireturn]
theorem hk_LAW_1412 : boA (mC 315) (mB 315) (mL 315) 1412 h_LAW_1412 = true := by decide +kernel
def h_LAW_1435 : List Instr := [.aload 1, .aload 0, .iload 3, .sipush 1, .iadd, .faload, .invokeinterface 2523 1, .aload 2, .aload 0, .iload 3, .sipush 1, .iadd, .faload, .invokeinterface 4732 1, .if_icmp .eq 1481, .sipush 0, .ireturn]
theorem hk_LAW_1435 : boA (mC 315) (mB 315) (mL 315) 1435 h_LAW_1435 = true := by decide +kernel
def h_LAW_1458 : List Instr := [.aload 1, .aload 0, .iload 3, .sipush 1, .iadd, .faload, .invokeinterface 2539 1, .aload 2, .aload 0, .iload 3, .sipush 1, .iadd, .faload, .invokeinterface 4748 1, .if_icmp .eq 1481, .sipush 0, .ireturn]
theorem hk_LAW_1458 : boA (mC 315) (mB 315) (mL 315) 1458 h_LAW_1458 = true := by decide +kernel
def h_LAW_1481 : List Instr := [.iinc 3 6, .goto 18]
theorem hk_LAW_1481 : boA (mC 315) (mB 315) (mL 315) 1481 h_LAW_1481 = true := by decide +kernel
def h_LAW_1487 : List Instr := [.sipush 1, .ireturn]
theorem hk_LAW_1487 : boA (mC 315) (mB 315) (mL 315) 1487 h_LAW_1487 = true := by decide +kernel
