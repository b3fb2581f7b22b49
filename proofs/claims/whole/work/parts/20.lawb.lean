theorem ln_L_9 : Cond.methodLink R_law 9 yX9_init ∈ lw_gd := gd_of 85 (by decide +kernel) rfl
theorem ln_L_12 : Cond.methodLink R_law 12 yX10_init ∈ lw_gd := gd_of 1139 (by decide +kernel) rfl
theorem ln_L_13 : Cond.methodLink R_law 13 yX9_book ∈ lw_gd := gd_of 422 (by decide +kernel) rfl
theorem ln_L_17 : Cond.methodLink R_law 17 yX10_book ∈ lw_gd := gd_of 1310 (by decide +kernel) rfl
theorem ln_L_18 : Cond.methodLink R_law 18 yX9_bookTold ∈ lw_gd := gd_of 439 (by decide +kernel) rfl
theorem ln_L_21 : Cond.methodLink R_law 21 yX10_bookTold ∈ lw_gd := gd_of 1326 (by decide +kernel) rfl
theorem ln_L_22 : Cond.methodLink R_law 22 yX9_tie ∈ lw_gd := gd_of 522 (by decide +kernel) rfl
theorem ln_L_26 : Cond.methodLink R_law 26 yX10_tie ∈ lw_gd := gd_of 1385 (by decide +kernel) rfl
theorem ln_L_27 : Cond.methodLink R_law 27 yX9_deal ∈ lw_gd := gd_of 526 (by decide +kernel) rfl
theorem ln_L_31 : Cond.methodLink R_law 31 yX10_deal ∈ lw_gd := gd_of 1389 (by decide +kernel) rfl
theorem ln_L_32 : Cond.methodLink R_law 32 yX9_seed ∈ lw_gd := gd_of 535 (by decide +kernel) rfl
theorem ln_L_35 : Cond.methodLink R_law 35 yX10_seed ∈ lw_gd := gd_of 1398 (by decide +kernel) rfl
theorem ln_L_36 : Cond.methodLink R_law 36 yX9_set ∈ lw_gd := gd_of 539 (by decide +kernel) rfl
theorem ln_L_39 : Cond.methodLink R_law 39 yX10_set ∈ lw_gd := gd_of 1402 (by decide +kernel) rfl
theorem ln_L_40 : Cond.methodLink R_law 40 yX9_board ∈ lw_gd := gd_of 543 (by decide +kernel) rfl
theorem ln_L_44 : Cond.methodLink R_law 44 yX10_board ∈ lw_gd := gd_of 1406 (by decide +kernel) rfl
theorem ln_L_45 : Cond.methodLink R_law 45 yX9_told ∈ lw_gd := gd_of 554 (by decide +kernel) rfl
theorem ln_L_48 : Cond.methodLink R_law 48 yX10_told ∈ lw_gd := gd_of 1410 (by decide +kernel) rfl
theorem ln_L_49 : Cond.methodLink R_law 49 yX9_as ∈ lw_gd := gd_of 589 (by decide +kernel) rfl
theorem ln_L_52 : Cond.methodLink R_law 52 yX10_as ∈ lw_gd := gd_of 1445 (by decide +kernel) rfl
theorem ln_L_53 : Cond.methodLink R_law 53 yX9_turns ∈ lw_gd := gd_of 599 (by decide +kernel) rfl
theorem ln_L_56 : Cond.methodLink R_law 56 yX10_turns ∈ lw_gd := gd_of 1453 (by decide +kernel) rfl
theorem ln_L_57 : Cond.methodLink R_law 57 yX9_drop ∈ lw_gd := gd_of 603 (by decide +kernel) rfl
theorem ln_L_60 : Cond.methodLink R_law 60 yX10_drop ∈ lw_gd := gd_of 1457 (by decide +kernel) rfl
theorem ln_L_61 : Cond.methodLink R_law 61 yX9_judge ∈ lw_gd := gd_of 615 (by decide +kernel) rfl
theorem ln_L_64 : Cond.methodLink R_law 64 yX10_judge ∈ lw_gd := gd_of 1461 (by decide +kernel) rfl
theorem ln_L_65 : Cond.methodLink R_law 65 yX9_setting ∈ lw_gd := gd_of 637 (by decide +kernel) rfl
theorem ln_L_68 : Cond.methodLink R_law 68 yX10_setting ∈ lw_gd := gd_of 1473 (by decide +kernel) rfl
theorem ln_L_69 : Cond.methodLink R_law 69 yX9_line ∈ lw_gd := gd_of 641 (by decide +kernel) rfl
theorem ln_L_72 : Cond.methodLink R_law 72 yX10_line ∈ lw_gd := gd_of 1477 (by decide +kernel) rfl
theorem ln_L_73 : Cond.methodLink R_law 73 yX9_allow ∈ lw_gd := gd_of 660 (by decide +kernel) rfl
theorem ln_L_76 : Cond.methodLink R_law 76 yX10_allow ∈ lw_gd := gd_of 1489 (by decide +kernel) rfl
theorem ln_L_77 : Cond.methodLink R_law 77 yX9_clear ∈ lw_gd := gd_of 673 (by decide +kernel) rfl
theorem ln_L_81 : Cond.methodLink R_law 81 yX10_clear ∈ lw_gd := gd_of 1494 (by decide +kernel) rfl
theorem ln_L_82 : Cond.methodLink R_law 82 yX9_cases ∈ lw_gd := gd_of 677 (by decide +kernel) rfl
theorem ln_L_85 : Cond.methodLink R_law 85 yX10_cases ∈ lw_gd := gd_of 1498 (by decide +kernel) rfl
theorem ln_L_86 : Cond.methodLink R_law 86 yX9_few ∈ lw_gd := gd_of 693 (by decide +kernel) rfl
theorem ln_L_89 : Cond.methodLink R_law 89 yX10_few ∈ lw_gd := gd_of 1506 (by decide +kernel) rfl
theorem ln_L_90 : Cond.methodLink R_law 90 yX9_apart ∈ lw_gd := gd_of 719 (by decide +kernel) rfl
theorem ln_L_93 : Cond.methodLink R_law 93 yX10_apart ∈ lw_gd := gd_of 1518 (by decide +kernel) rfl
theorem ln_L_94 : Cond.methodLink R_law 94 yX9_edge ∈ lw_gd := gd_of 738 (by decide +kernel) rfl
theorem ln_L_97 : Cond.methodLink R_law 97 yX10_edge ∈ lw_gd := gd_of 1534 (by decide +kernel) rfl
theorem ln_L_98 : Cond.methodLink R_law 98 yX9_feed ∈ lw_gd := gd_of 743 (by decide +kernel) rfl
theorem ln_L_101 : Cond.methodLink R_law 101 yX10_feed ∈ lw_gd := gd_of 1538 (by decide +kernel) rfl
theorem ln_L_102 : Cond.methodLink R_law 102 yX9_trim ∈ lw_gd := gd_of 751 (by decide +kernel) rfl
theorem ln_L_105 : Cond.methodLink R_law 105 yX10_trim ∈ lw_gd := gd_of 1542 (by decide +kernel) rfl
theorem ln_L_106 : Cond.methodLink R_law 106 yX9_text ∈ lw_gd := gd_of 755 (by decide +kernel) rfl
theorem ln_L_109 : Cond.methodLink R_law 109 yX10_text ∈ lw_gd := gd_of 1546 (by decide +kernel) rfl
theorem ln_L_110 : Cond.methodLink R_law 110 yX9_textTold ∈ lw_gd := gd_of 969 (by decide +kernel) rfl
theorem ln_L_113 : Cond.methodLink R_law 113 yX10_textTold ∈ lw_gd := gd_of 1593 (by decide +kernel) rfl
theorem ln_L_114 : Cond.methodLink R_law 114 yX9_why ∈ lw_gd := gd_of 974 (by decide +kernel) rfl
theorem ln_L_117 : Cond.methodLink R_law 117 yX10_why ∈ lw_gd := gd_of 1597 (by decide +kernel) rfl
theorem ln_L_118 : Cond.methodLink R_law 118 yX9_fullBy ∈ lw_gd := gd_of 979 (by decide +kernel) rfl
theorem ln_L_121 : Cond.methodLink R_law 121 yX10_fullBy ∈ lw_gd := gd_of 1601 (by decide +kernel) rfl
theorem ln_L_122 : Cond.methodLink R_law 122 yX9_most ∈ lw_gd := gd_of 1007 (by decide +kernel) rfl
theorem ln_L_125 : Cond.methodLink R_law 125 yX10_most ∈ lw_gd := gd_of 1617 (by decide +kernel) rfl
theorem ln_L_126 : Cond.methodLink R_law 126 yX9_wall ∈ lw_gd := gd_of 1012 (by decide +kernel) rfl
theorem ln_L_129 : Cond.methodLink R_law 129 yX10_wall ∈ lw_gd := gd_of 1621 (by decide +kernel) rfl
theorem ln_L_130 : Cond.methodLink R_law 130 yX9_inch ∈ lw_gd := gd_of 1016 (by decide +kernel) rfl
theorem ln_L_133 : Cond.methodLink R_law 133 yX10_inch ∈ lw_gd := gd_of 1625 (by decide +kernel) rfl
theorem ln_L_134 : Cond.methodLink R_law 134 yX9_shift ∈ lw_gd := gd_of 1020 (by decide +kernel) rfl
theorem ln_L_137 : Cond.methodLink R_law 137 yX10_shift ∈ lw_gd := gd_of 1629 (by decide +kernel) rfl
theorem ln_L_138 : Cond.methodLink R_law 138 yX9_sheet ∈ lw_gd := gd_of 1032 (by decide +kernel) rfl
theorem ln_L_141 : Cond.methodLink R_law 141 yX10_sheet ∈ lw_gd := gd_of 1633 (by decide +kernel) rfl
theorem ln_L_142 : Cond.methodLink R_law 142 yX9_mark ∈ lw_gd := gd_of 1046 (by decide +kernel) rfl
theorem ln_L_145 : Cond.methodLink R_law 145 yX10_mark ∈ lw_gd := gd_of 1641 (by decide +kernel) rfl
theorem ln_L_146 : Cond.methodLink R_law 146 yX9_pour ∈ lw_gd := gd_of 1059 (by decide +kernel) rfl
theorem ln_L_149 : Cond.methodLink R_law 149 yX10_pour ∈ lw_gd := gd_of 1649 (by decide +kernel) rfl
theorem ln_L_150 : Cond.methodLink R_law 150 yX9_copy ∈ lw_gd := gd_of 1068 (by decide +kernel) rfl
theorem ln_L_154 : Cond.methodLink R_law 154 yX10_copy ∈ lw_gd := gd_of 1653 (by decide +kernel) rfl
theorem ln_L_155 : Cond.methodLink R_law 155 yX9_lay ∈ lw_gd := gd_of 1072 (by decide +kernel) rfl
theorem ln_L_158 : Cond.methodLink R_law 158 yX10_lay ∈ lw_gd := gd_of 1657 (by decide +kernel) rfl
theorem ln_L_159 : Cond.methodLink R_law 159 yX9_ask ∈ lw_gd := gd_of 1085 (by decide +kernel) rfl
theorem ln_L_162 : Cond.methodLink R_law 162 yX10_ask ∈ lw_gd := gd_of 1664 (by decide +kernel) rfl
theorem ln_L_163 : Cond.methodLink R_law 163 yX9_item ∈ lw_gd := gd_of 1095 (by decide +kernel) rfl
theorem ln_L_166 : Cond.methodLink R_law 166 yX10_item ∈ lw_gd := gd_of 1668 (by decide +kernel) rfl
theorem ln_L_167 : Cond.methodLink R_law 167 yX9_rest ∈ lw_gd := gd_of 1099 (by decide +kernel) rfl
theorem ln_L_170 : Cond.methodLink R_law 170 yX10_rest ∈ lw_gd := gd_of 1672 (by decide +kernel) rfl
theorem ln_L_171 : Cond.methodLink R_law 171 yX9_tell ∈ lw_gd := gd_of 1103 (by decide +kernel) rfl
theorem ln_L_174 : Cond.methodLink R_law 174 yX10_tell ∈ lw_gd := gd_of 1676 (by decide +kernel) rfl
theorem ln_L_175 : Cond.methodLink R_law 175 yX9_check ∈ lw_gd := gd_of 1107 (by decide +kernel) rfl
theorem ln_L_178 : Cond.methodLink R_law 178 yX10_check ∈ lw_gd := gd_of 1680 (by decide +kernel) rfl
theorem ln_L_179 : Cond.methodLink R_law 179 yX9_keep ∈ lw_gd := gd_of 1115 (by decide +kernel) rfl
theorem ln_L_182 : Cond.methodLink R_law 182 yX10_keep ∈ lw_gd := gd_of 1691 (by decide +kernel) rfl
theorem ln_L_183 : Cond.methodLink R_law 183 yX9_back ∈ lw_gd := gd_of 1124 (by decide +kernel) rfl
theorem ln_L_186 : Cond.methodLink R_law 186 yX10_back ∈ lw_gd := gd_of 1695 (by decide +kernel) rfl
theorem ln_L_187 : Cond.methodLink R_law 187 yX9_count ∈ lw_gd := gd_of 1128 (by decide +kernel) rfl
theorem ln_L_190 : Cond.methodLink R_law 190 yX10_count ∈ lw_gd := gd_of 1699 (by decide +kernel) rfl
theorem rq_ti {w : WE} {b L : Nat} {xs : Nat → Int32} {cu su pc : Nat} {lv : List (Nat × Value)} {st : List Value} {M : Mem} {x y : Int32} (h : y = x) (k : RQ w b L xs cu su pc lv (.int y :: st) M) : RQ w b L xs cu su pc lv (.int x :: st) M := by subst h; exact k
def Op_book (Inv : Nat → Mem → Prop) : Prop := ∀ (n : Nat) (M : Mem) (a0 a1 : Int32), n < 512 → Inv n M → ∃ (r : Int32) (M1 M2 : Mem), (f_X9_book M a0 a1 = some (r, M1)) ∧ (f_X10_book M1 a0 a1 = some (r, M2)) ∧ Inv (n + 1) M2
def Op_bookTold (Inv : Nat → Mem → Prop) : Prop := ∀ (n : Nat) (M : Mem) (a0 a1 : Int32), n < 512 → Inv n M → ∃ (r : Int32) (M1 M2 : Mem), (f_X9_bookTold M a0 a1 = some (r, M1)) ∧ (f_X10_bookTold M1 a0 a1 = some (r, M2)) ∧ Inv (n + 1) M2
def Op_tie (Inv : Nat → Mem → Prop) : Prop := ∀ (n : Nat) (M : Mem) (a0 a1 : Int32), n < 512 → (a1 = 0 ∨ a1 = 1) → Inv n M → ∃ (r : Int32) (M1 M2 : Mem), (f_X9_tie M a0 a1 = some (r, M1)) ∧ (f_X10_tie M1 a0 a1 = some (r, M2)) ∧ Inv (n + 1) M2
def Op_deal (Inv : Nat → Mem → Prop) : Prop := ∀ (n : Nat) (M : Mem) (a0 : Int32), n < 512 → Inv n M → ∃ (r : Int32) (M1 M2 : Mem), (f_X9_deal M a0 = some (r, M1)) ∧ (f_X10_deal M1 a0 = some (r, M2)) ∧ Inv (n + 1) M2
def Op_seed (Inv : Nat → Mem → Prop) : Prop := ∀ (n : Nat) (M : Mem) (a0 : Int32), n < 512 → Inv n M → ∃ (r : Int32) (M1 M2 : Mem), (f_X9_seed M a0 = some (r, M1)) ∧ (f_X10_seed M1 a0 = some (r, M2)) ∧ Inv (n + 1) M2
def Op_set (Inv : Nat → Mem → Prop) : Prop := ∀ (n : Nat) (M : Mem) (a0 a1 : Int32), n < 512 → Inv n M → ∃ (r : Int32) (M1 M2 : Mem), (f_X9_set M a0 a1 = some (r, M1)) ∧ (f_X10_set M1 a0 a1 = some (r, M2)) ∧ Inv (n + 1) M2
def Op_board (Inv : Nat → Mem → Prop) : Prop := ∀ (n : Nat) (M : Mem) (a0 a1 a2 : Int32), n < 512 → Inv n M → ∃ (r : Int32) (M1 M2 : Mem), (f_X9_board M a0 a1 a2 = some (r, M1)) ∧ (f_X10_board M1 a0 a1 a2 = some (r, M2)) ∧ Inv (n + 1) M2
def Op_told (Inv : Nat → Mem → Prop) : Prop := ∀ (n : Nat) (M : Mem) (a0 a1 : Int32), n < 512 → Inv n M → ∃ (r : Int32) (M1 M2 : Mem), (f_X9_told M a0 a1 = some r ∧ M1 = M) ∧ (f_X10_told M1 a0 a1 = some r ∧ M2 = M1) ∧ Inv (n + 1) M2
def Op_as (Inv : Nat → Mem → Prop) : Prop := ∀ (n : Nat) (M : Mem) (a0 a1 : Int32), n < 512 → Inv n M → ∃ (r : Int32) (M1 M2 : Mem), (f_X9_as M a0 a1 = some r ∧ M1 = M) ∧ (f_X10_as M1 a0 a1 = some r ∧ M2 = M1) ∧ Inv (n + 1) M2
def Op_turns (Inv : Nat → Mem → Prop) : Prop := ∀ (n : Nat) (M : Mem) (a0 a1 : Int32), n < 512 → Inv n M → ∃ (r : Int32) (M1 M2 : Mem), (f_X9_turns M a0 a1 = some (r, M1)) ∧ (f_X10_turns M1 a0 a1 = some (r, M2)) ∧ Inv (n + 1) M2
def Op_drop (Inv : Nat → Mem → Prop) : Prop := ∀ (n : Nat) (M : Mem) (a0 : Int32), n < 512 → Inv n M → ∃ (r : Int32) (M1 M2 : Mem), (f_X9_drop M a0 = some (r, M1)) ∧ (f_X10_drop M1 a0 = some (r, M2)) ∧ Inv (n + 1) M2
def Op_judge (Inv : Nat → Mem → Prop) : Prop := ∀ (n : Nat) (M : Mem) (a0 : Int32), n < 512 → Inv n M → ∃ (r : Int32) (M1 M2 : Mem), (f_X9_judge M a0 = some r ∧ M1 = M) ∧ (f_X10_judge M1 a0 = some r ∧ M2 = M1) ∧ Inv (n + 1) M2
def Op_setting (Inv : Nat → Mem → Prop) : Prop := ∀ (n : Nat) (M : Mem) (a0 : Int32), n < 512 → Inv n M → ∃ (r : Int32) (M1 M2 : Mem), (f_X9_setting M a0 = some (r, M1)) ∧ (f_X10_setting M1 a0 = some (r, M2)) ∧ Inv (n + 1) M2
def Op_line (Inv : Nat → Mem → Prop) : Prop := ∀ (n : Nat) (M : Mem) (a0 a1 : Int32), n < 512 → Inv n M → ∃ (r : Int32) (M1 M2 : Mem), (f_X9_line M a0 a1 = some (r, M1)) ∧ (f_X10_line M1 a0 a1 = some (r, M2)) ∧ Inv (n + 1) M2
def Op_allow (Inv : Nat → Mem → Prop) : Prop := ∀ (n : Nat) (M : Mem) (a0 : Int32), n < 512 → Inv n M → ∃ (r : Int32) (M1 M2 : Mem), (f_X9_allow M a0 = some (r, M1)) ∧ (f_X10_allow M1 a0 = some (r, M2)) ∧ Inv (n + 1) M2
def Op_clear (Inv : Nat → Mem → Prop) : Prop := ∀ (n : Nat) (M : Mem), n < 512 → Inv n M → ∃ (r : Int32) (M1 M2 : Mem), (f_X9_clear M = some (r, M1)) ∧ (f_X10_clear M1 = some (r, M2)) ∧ Inv (n + 1) M2
def Op_cases (Inv : Nat → Mem → Prop) : Prop := ∀ (n : Nat) (M : Mem) (a0 : Int32), n < 512 → Inv n M → ∃ (r : Int32) (M1 M2 : Mem), (f_X9_cases M a0 = some (r, M1)) ∧ (f_X10_cases M1 a0 = some (r, M2)) ∧ Inv (n + 1) M2
def Op_few (Inv : Nat → Mem → Prop) : Prop := ∀ (n : Nat) (M : Mem) (a0 a1 : Int32), n < 512 → Inv n M → ∃ (r : Int32) (M1 M2 : Mem), (f_X9_few M a0 a1 = some (r, M1)) ∧ (f_X10_few M1 a0 a1 = some (r, M2)) ∧ Inv (n + 1) M2
def Op_apart (Inv : Nat → Mem → Prop) : Prop := ∀ (n : Nat) (M : Mem) (a0 : Int32), n < 512 → Inv n M → ∃ (r : Int32) (M1 M2 : Mem), (f_X9_apart M a0 = some (r, M1)) ∧ (f_X10_apart M1 a0 = some (r, M2)) ∧ Inv (n + 1) M2
def Op_edge (Inv : Nat → Mem → Prop) : Prop := ∀ (n : Nat) (M : Mem), n < 512 → Inv n M → ∃ (r : Int32) (M1 M2 : Mem), (f_X9_edge M = some (r, M1)) ∧ (f_X10_edge M1 = some (r, M2)) ∧ Inv (n + 1) M2
def Op_feed (Inv : Nat → Mem → Prop) : Prop := ∀ (n : Nat) (M : Mem) (a0 a1 a2 : Int32), n < 512 → Inv n M → ∃ (r : Int32) (M1 M2 : Mem), (f_X9_feed M a0 a1 a2 = some (r, M1)) ∧ (f_X10_feed M1 a0 a1 a2 = some (r, M2)) ∧ Inv (n + 1) M2
def Op_trim (Inv : Nat → Mem → Prop) : Prop := ∀ (n : Nat) (M : Mem) (a0 : Int32), n < 512 → Inv n M → ∃ (r : Int32) (M1 M2 : Mem), (f_X9_trim M a0 = some (r, M1)) ∧ (f_X10_trim M1 a0 = some (r, M2)) ∧ Inv (n + 1) M2
def Op_text (Inv : Nat → Mem → Prop) : Prop := ∀ (n : Nat) (M : Mem), n < 512 → Inv n M → ∃ (r : Int32) (M1 M2 : Mem), (f_X9_text M = some (r, M1)) ∧ (f_X10_text M1 = some (r, M2)) ∧ Inv (n + 1) M2
def Op_textTold (Inv : Nat → Mem → Prop) : Prop := ∀ (n : Nat) (M : Mem) (a0 a1 : Int32), n < 512 → Inv n M → ∃ (r : Int32) (M1 M2 : Mem), (f_X9_textTold M a0 a1 = some r ∧ M1 = M) ∧ (f_X10_textTold M1 a0 a1 = some r ∧ M2 = M1) ∧ Inv (n + 1) M2
def Op_why (Inv : Nat → Mem → Prop) : Prop := ∀ (n : Nat) (M : Mem) (a0 : Int32), n < 512 → Inv n M → ∃ (r : Int32) (M1 M2 : Mem), (f_X9_why M a0 = some r ∧ M1 = M) ∧ (f_X10_why M1 a0 = some r ∧ M2 = M1) ∧ Inv (n + 1) M2
def Op_fullBy (Inv : Nat → Mem → Prop) : Prop := ∀ (n : Nat) (M : Mem), n < 512 → Inv n M → ∃ (r : Int32) (M1 M2 : Mem), (f_X9_fullBy M = some (r, M1)) ∧ (f_X10_fullBy M1 = some (r, M2)) ∧ Inv (n + 1) M2
def Op_most (Inv : Nat → Mem → Prop) : Prop := ∀ (n : Nat) (M : Mem) (a0 a1 : Int32), n < 512 → Inv n M → ∃ (r : Int32) (M1 M2 : Mem), (f_X9_most M a0 a1 = some (r, M1)) ∧ (f_X10_most M1 a0 a1 = some (r, M2)) ∧ Inv (n + 1) M2
def Op_wall (Inv : Nat → Mem → Prop) : Prop := ∀ (n : Nat) (M : Mem) (a0 a1 : Int32), n < 512 → Inv n M → ∃ (r : Int32) (M1 M2 : Mem), (f_X9_wall M a0 a1 = some r ∧ M1 = M) ∧ (f_X10_wall M1 a0 a1 = some r ∧ M2 = M1) ∧ Inv (n + 1) M2
def Op_inch (Inv : Nat → Mem → Prop) : Prop := ∀ (n : Nat) (M : Mem) (a0 : Int32), n < 512 → Inv n M → ∃ (r : Int32) (M1 M2 : Mem), (f_X9_inch M a0 = some (r, M1)) ∧ (f_X10_inch M1 a0 = some (r, M2)) ∧ Inv (n + 1) M2
def Op_shift (Inv : Nat → Mem → Prop) : Prop := ∀ (n : Nat) (M : Mem) (a0 a1 : Int32), n < 512 → Inv n M → ∃ (r : Int32) (M1 M2 : Mem), (f_X9_shift M a0 a1 = some (r, M1)) ∧ (f_X10_shift M1 a0 a1 = some (r, M2)) ∧ Inv (n + 1) M2
def Op_sheet (Inv : Nat → Mem → Prop) : Prop := ∀ (n : Nat) (M : Mem) (a0 a1 a2 : Int32), n < 512 → Inv n M → ∃ (r : Int32) (M1 M2 : Mem), (f_X9_sheet M a0 a1 a2 = some (r, M1)) ∧ (f_X10_sheet M1 a0 a1 a2 = some (r, M2)) ∧ Inv (n + 1) M2
def Op_mark (Inv : Nat → Mem → Prop) : Prop := ∀ (n : Nat) (M : Mem) (a0 a1 a2 : Int32), n < 512 → Inv n M → ∃ (r : Int32) (M1 M2 : Mem), (f_X9_mark M a0 a1 a2 = some (r, M1)) ∧ (f_X10_mark M1 a0 a1 a2 = some (r, M2)) ∧ Inv (n + 1) M2
def Op_pour (Inv : Nat → Mem → Prop) : Prop := ∀ (n : Nat) (M : Mem) (a0 a1 : Int32), n < 512 → Inv n M → ∃ (r : Int32) (M1 M2 : Mem), (f_X9_pour M a0 a1 = some (r, M1)) ∧ (f_X10_pour M1 a0 a1 = some (r, M2)) ∧ Inv (n + 1) M2
def Op_copy (Inv : Nat → Mem → Prop) : Prop := ∀ (n : Nat) (M : Mem) (a0 a1 a2 a3 a4 : Int32), n < 512 → Inv n M → ∃ (r : Int32) (M1 M2 : Mem), (f_X9_copy M a0 a1 a2 a3 a4 = some (r, M1)) ∧ (f_X10_copy M1 a0 a1 a2 a3 a4 = some (r, M2)) ∧ Inv (n + 1) M2
def Op_lay (Inv : Nat → Mem → Prop) : Prop := ∀ (n : Nat) (M : Mem) (a0 a1 a2 : Int32), n < 512 → Inv n M → ∃ (r : Int32) (M1 M2 : Mem), (f_X9_lay M a0 a1 a2 = some (r, M1)) ∧ (f_X10_lay M1 a0 a1 a2 = some (r, M2)) ∧ Inv (n + 1) M2
def Op_ask (Inv : Nat → Mem → Prop) : Prop := ∀ (n : Nat) (M : Mem) (a0 a1 : Int32), n < 512 → Inv n M → ∃ (r : Int32) (M1 M2 : Mem), (f_X9_ask M a0 a1 = some r ∧ M1 = M) ∧ (f_X10_ask M1 a0 a1 = some r ∧ M2 = M1) ∧ Inv (n + 1) M2
def Op_item (Inv : Nat → Mem → Prop) : Prop := ∀ (n : Nat) (M : Mem) (a0 a1 : Int32), n < 512 → Inv n M → ∃ (r : Int32) (M1 M2 : Mem), (f_X9_item M a0 a1 = some r ∧ M1 = M) ∧ (f_X10_item M1 a0 a1 = some r ∧ M2 = M1) ∧ Inv (n + 1) M2
def Op_rest (Inv : Nat → Mem → Prop) : Prop := ∀ (n : Nat) (M : Mem) (a0 a1 : Int32), n < 512 → Inv n M → ∃ (r : Int32) (M1 M2 : Mem), (f_X9_rest M a0 a1 = some r ∧ M1 = M) ∧ (f_X10_rest M1 a0 a1 = some r ∧ M2 = M1) ∧ Inv (n + 1) M2
def Op_tell (Inv : Nat → Mem → Prop) : Prop := ∀ (n : Nat) (M : Mem) (a0 : Int32), n < 512 → Inv n M → ∃ (r : Int32) (M1 M2 : Mem), (f_X9_tell M a0 = some (r, M1)) ∧ (f_X10_tell M1 a0 = some (r, M2)) ∧ Inv (n + 1) M2
def Op_check (Inv : Nat → Mem → Prop) : Prop := ∀ (n : Nat) (M : Mem) (a0 : Int32), n < 512 → Inv n M → ∃ (r : Int32) (M1 M2 : Mem), (f_X9_check M a0 = some (r, M1)) ∧ (f_X10_check M1 a0 = some (r, M2)) ∧ Inv (n + 1) M2
def Op_keep (Inv : Nat → Mem → Prop) : Prop := ∀ (n : Nat) (M : Mem), n < 512 → Inv n M → ∃ (r : Int32) (M1 M2 : Mem), (f_X9_keep M = some (r, M1)) ∧ (f_X10_keep M1 = some (r, M2)) ∧ Inv (n + 1) M2
def Op_back (Inv : Nat → Mem → Prop) : Prop := ∀ (n : Nat) (M : Mem), n < 512 → Inv n M → ∃ (r : Int32) (M1 M2 : Mem), (f_X9_back M = some (r, M1)) ∧ (f_X10_back M1 = some (r, M2)) ∧ Inv (n + 1) M2
def Op_count (Inv : Nat → Mem → Prop) : Prop := ∀ (n : Nat) (M : Mem) (a0 : Int32), n < 512 → Inv n M → ∃ (r : Int32) (M1 M2 : Mem), (f_X9_count M a0 = some (r, M1)) ∧ (f_X10_count M1 a0 = some (r, M2)) ∧ Inv (n + 1) M2
set_option maxRecDepth 20000 in
set_option maxHeartbeats 1000000 in
theorem li_book {Inv : Nat → Mem → Prop} (hop : Op_book Inv) {w : WE} {b L n cu su : Nat} {xs : Nat → Int32} {M : Mem} (hn : n < 512) (hL : 6 * n + 6 ≤ L) (hL2 : L ≤ 3072) (hc : cu + 3 ≤ 600000) (hs : su + 196 ≤ 7302250) (hI : Inv n M) (k : ∀ (w' : WE) (M2 : Mem), Inv (n + 1) M2 → RQ w' b L xs (cu + 3) (su + 196) 1475 [(0, .ref b), (1, .ref (bw_ad w' 0)), (2, .ref (bw_ad w' 93)), (3, .int (nI (6 * n)))] [] M2) : RQ w b L xs cu su 220 [(0, .ref b), (1, .ref (bw_ad w 0)), (2, .ref (bw_ad w 93)), (3, .int (nI (6 * n)))] [] M := by
  obtain ⟨r, M1, M2, h1, h2, hI2⟩ := hop n M (xs (6 * n + 1)) (xs (6 * n + 2)) hn hI
  refine rl_aload_n dL_law_220 rfl rfl ?_
  refine rl_aload_n dL_law_221 rfl rfl ?_
  refine rl_iload_n dL_law_222 rfl rfl ?_
  refine rl_iconst (v := 1) dL_law_223 (by decide) ?_
  refine rl_iadd dL_law_224 ?_
  refine rq_ti (y := nI (6 * n + 1)) (nI_add (6 * n) 1).symm ?_
  refine rl_ld dL_law_225 (vp_in_nI (by omega) (by omega)) ?_
  refine rq_ti (y := xs (6 * n + 1)) (by rw [nI_clamp (by omega)]) ?_
  refine rl_aload_n dL_law_226 rfl rfl ?_
  refine rl_iload_n dL_law_227 rfl rfl ?_
  refine rl_iconst (v := 2) dL_law_228 (by decide) ?_
  refine rl_iadd dL_law_229 ?_
  refine rq_ti (y := nI (6 * n + 2)) (nI_add (6 * n) 2).symm ?_
  refine rl_ld dL_law_230 (vp_in_nI (by omega) (by omega)) ?_
  refine rq_ti (y := xs (6 * n + 2)) (by rw [nI_clamp (by omega)]) ?_
  refine rl_call2 dL_law_231 ln_L_13 mv_X9_book (sh_x w) (bw_kl (by decide)) (ct_X9_book h1) (Nat.le_of_ble_eq_true rfl) (Nat.le_of_ble_eq_true rfl) (bw_kki ?_)
  refine rl_aload_n dL_law_234 rfl rfl ?_
  refine rl_aload_n dL_law_235 rfl rfl ?_
  refine rl_iload_n dL_law_236 rfl rfl ?_
  refine rl_iconst (v := 1) dL_law_237 (by decide) ?_
  refine rl_iadd dL_law_238 ?_
  refine rq_ti (y := nI (6 * n + 1)) (nI_add (6 * n) 1).symm ?_
  refine rl_ld dL_law_239 (vp_in_nI (by omega) (by omega)) ?_
  refine rq_ti (y := xs (6 * n + 1)) (by rw [nI_clamp (by omega)]) ?_
  refine rl_aload_n dL_law_240 rfl rfl ?_
  refine rl_iload_n dL_law_241 rfl rfl ?_
  refine rl_iconst (v := 2) dL_law_242 (by decide) ?_
  refine rl_iadd dL_law_243 ?_
  refine rq_ti (y := nI (6 * n + 2)) (nI_add (6 * n) 2).symm ?_
  refine rl_ld dL_law_244 (vp_in_nI (by omega) (by omega)) ?_
  refine rq_ti (y := xs (6 * n + 2)) (by rw [nI_clamp (by omega)]) ?_
  refine rl_call2 dL_law_245 ln_L_17 mv_X10_book (sh_m w) (bw_kl (by decide)) (ct_X10_book h2) (Nat.le_of_ble_eq_true rfl) (Nat.le_of_ble_eq_true rfl) (bw_kki ?_)
  refine rl_eq (tgt := 1475) dL_law_248 (by decide) ?_
  refine rl_widen (cu' := cu + 3) (su' := su + 196) (by omega) (by omega) (by omega) (by omega) ?_
  exact rl_sub (rw_lc rfl (rw_lc rfl (rw_lc rfl (rw_lc rfl rw_lz)))) (k _ M2 hI2)
set_option maxRecDepth 20000 in
set_option maxHeartbeats 1000000 in
theorem li_bookTold {Inv : Nat → Mem → Prop} (hop : Op_bookTold Inv) {w : WE} {b L n cu su : Nat} {xs : Nat → Int32} {M : Mem} (hn : n < 512) (hL : 6 * n + 6 ≤ L) (hL2 : L ≤ 3072) (hc : cu + 3 ≤ 600000) (hs : su + 196 ≤ 7302250) (hI : Inv n M) (k : ∀ (w' : WE) (M2 : Mem), Inv (n + 1) M2 → RQ w' b L xs (cu + 3) (su + 196) 1475 [(0, .ref b), (1, .ref (bw_ad w' 0)), (2, .ref (bw_ad w' 93)), (3, .int (nI (6 * n)))] [] M2) : RQ w b L xs cu su 253 [(0, .ref b), (1, .ref (bw_ad w 0)), (2, .ref (bw_ad w 93)), (3, .int (nI (6 * n)))] [] M := by
  obtain ⟨r, M1, M2, h1, h2, hI2⟩ := hop n M (xs (6 * n + 1)) (xs (6 * n + 2)) hn hI
  refine rl_aload_n dL_law_253 rfl rfl ?_
  refine rl_aload_n dL_law_254 rfl rfl ?_
  refine rl_iload_n dL_law_255 rfl rfl ?_
  refine rl_iconst (v := 1) dL_law_256 (by decide) ?_
  refine rl_iadd dL_law_257 ?_
  refine rq_ti (y := nI (6 * n + 1)) (nI_add (6 * n) 1).symm ?_
  refine rl_ld dL_law_258 (vp_in_nI (by omega) (by omega)) ?_
  refine rq_ti (y := xs (6 * n + 1)) (by rw [nI_clamp (by omega)]) ?_
  refine rl_aload_n dL_law_259 rfl rfl ?_
  refine rl_iload_n dL_law_260 rfl rfl ?_
  refine rl_iconst (v := 2) dL_law_261 (by decide) ?_
  refine rl_iadd dL_law_262 ?_
  refine rq_ti (y := nI (6 * n + 2)) (nI_add (6 * n) 2).symm ?_
  refine rl_ld dL_law_263 (vp_in_nI (by omega) (by omega)) ?_
  refine rq_ti (y := xs (6 * n + 2)) (by rw [nI_clamp (by omega)]) ?_
  refine rl_call2 dL_law_264 ln_L_18 mv_X9_bookTold (sh_x w) (bw_kl (by decide)) (ct_X9_bookTold h1) (Nat.le_of_ble_eq_true rfl) (Nat.le_of_ble_eq_true rfl) (bw_kki ?_)
  refine rl_aload_n dL_law_267 rfl rfl ?_
  refine rl_aload_n dL_law_268 rfl rfl ?_
  refine rl_iload_n dL_law_269 rfl rfl ?_
  refine rl_iconst (v := 1) dL_law_270 (by decide) ?_
  refine rl_iadd dL_law_271 ?_
  refine rq_ti (y := nI (6 * n + 1)) (nI_add (6 * n) 1).symm ?_
  refine rl_ld dL_law_272 (vp_in_nI (by omega) (by omega)) ?_
  refine rq_ti (y := xs (6 * n + 1)) (by rw [nI_clamp (by omega)]) ?_
  refine rl_aload_n dL_law_273 rfl rfl ?_
  refine rl_iload_n dL_law_274 rfl rfl ?_
  refine rl_iconst (v := 2) dL_law_275 (by decide) ?_
  refine rl_iadd dL_law_276 ?_
  refine rq_ti (y := nI (6 * n + 2)) (nI_add (6 * n) 2).symm ?_
  refine rl_ld dL_law_277 (vp_in_nI (by omega) (by omega)) ?_
  refine rq_ti (y := xs (6 * n + 2)) (by rw [nI_clamp (by omega)]) ?_
  refine rl_call2 dL_law_278 ln_L_21 mv_X10_bookTold (sh_m w) (bw_kl (by decide)) (ct_X10_bookTold h2) (Nat.le_of_ble_eq_true rfl) (Nat.le_of_ble_eq_true rfl) (bw_kki ?_)
  refine rl_eq (tgt := 1475) dL_law_281 (by decide) ?_
  refine rl_widen (cu' := cu + 3) (su' := su + 196) (by omega) (by omega) (by omega) (by omega) ?_
  exact rl_sub (rw_lc rfl (rw_lc rfl (rw_lc rfl (rw_lc rfl rw_lz)))) (k _ M2 hI2)
set_option maxRecDepth 20000 in
set_option maxHeartbeats 1000000 in
theorem li_tie {Inv : Nat → Mem → Prop} (hop : Op_tie Inv) {w : WE} {b L n cu su : Nat} {xs : Nat → Int32} {M : Mem} (hn : n < 512) (hL : 6 * n + 6 ≤ L) (hL2 : L ≤ 3072) (hc : cu + 3 ≤ 600000) (hs : su + 196 ≤ 7302250) (hI : Inv n M) (k : ∀ (w' : WE) (M2 : Mem), Inv (n + 1) M2 → RQ w' b L xs (cu + 3) (su + 196) 1475 [(0, .ref b), (1, .ref (bw_ad w' 0)), (2, .ref (bw_ad w' 93)), (3, .int (nI (6 * n)))] [] M2) : RQ w b L xs cu su 286 [(0, .ref b), (1, .ref (bw_ad w 0)), (2, .ref (bw_ad w 93)), (3, .int (nI (6 * n)))] [] M := by
  obtain ⟨r, M1, M2, h1, h2, hI2⟩ := hop n M (xs (6 * n + 1)) (if xs (6 * n + 2) = 0 then 0 else 1) hn (by split <;> simp) hI
  refine rl_aload_n dL_law_286 rfl rfl ?_
  refine rl_aload_n dL_law_287 rfl rfl ?_
  refine rl_iload_n dL_law_288 rfl rfl ?_
  refine rl_iconst (v := 1) dL_law_289 (by decide) ?_
  refine rl_iadd dL_law_290 ?_
  refine rq_ti (y := nI (6 * n + 1)) (nI_add (6 * n) 1).symm ?_
  refine rl_ld dL_law_291 (vp_in_nI (by omega) (by omega)) ?_
  refine rq_ti (y := xs (6 * n + 1)) (by rw [nI_clamp (by omega)]) ?_
  refine rl_aload_n dL_law_292 rfl rfl ?_
  refine rl_iload_n dL_law_293 rfl rfl ?_
  refine rl_iconst (v := 2) dL_law_294 (by decide) ?_
  refine rl_iadd dL_law_295 ?_
  refine rq_ti (y := nI (6 * n + 2)) (nI_add (6 * n) 2).symm ?_
  refine rl_ld dL_law_296 (vp_in_nI (by omega) (by omega)) ?_
  refine rq_ti (y := xs (6 * n + 2)) (by rw [nI_clamp (by omega)]) ?_
  have kz : RQ w b L xs cu su 305 [(0, .ref b), (1, .ref (bw_ad w 0)), (2, .ref (bw_ad w 93)), (3, .int (nI (6 * n)))] [.int (if xs (6 * n + 2) = 0 then 0 else 1), .int (xs (6 * n + 1)), .ref (bw_ad w 0)] M := by
    refine rl_call2 dL_law_305 ln_L_22 mv_X9_tie (sh_x w) (bw_kl (by decide)) (ct_X9_tie h1) (Nat.le_of_ble_eq_true rfl) (Nat.le_of_ble_eq_true rfl) (bw_kki ?_)
    refine rl_aload_n dL_law_308 rfl rfl ?_
    refine rl_aload_n dL_law_309 rfl rfl ?_
    refine rl_iload_n dL_law_310 rfl rfl ?_
    refine rl_iconst (v := 1) dL_law_311 (by decide) ?_
    refine rl_iadd dL_law_312 ?_
    refine rq_ti (y := nI (6 * n + 1)) (nI_add (6 * n) 1).symm ?_
    refine rl_ld dL_law_313 (vp_in_nI (by omega) (by omega)) ?_
    refine rq_ti (y := xs (6 * n + 1)) (by rw [nI_clamp (by omega)]) ?_
    refine rl_aload_n dL_law_314 rfl rfl ?_
    refine rl_iload_n dL_law_315 rfl rfl ?_
    refine rl_iconst (v := 2) dL_law_316 (by decide) ?_
    refine rl_iadd dL_law_317 ?_
    refine rq_ti (y := nI (6 * n + 2)) (nI_add (6 * n) 2).symm ?_
    refine rl_ld dL_law_318 (vp_in_nI (by omega) (by omega)) ?_
    refine rq_ti (y := xs (6 * n + 2)) (by rw [nI_clamp (by omega)]) ?_
    have kz : RQ w b L xs cu su 327 [(0, .ref b), (1, .ref (bw_ad w 0)), (2, .ref (bw_ad w 93)), (3, .int (nI (6 * n)))] [.int (if xs (6 * n + 2) = 0 then 0 else 1), .int (xs (6 * n + 1)), .ref (bw_ad w 93), .int r] M1 := by
      refine rl_call2 dL_law_327 ln_L_26 mv_X10_tie (sh_m w) (bw_kl (by decide)) (ct_X10_tie h2) (Nat.le_of_ble_eq_true rfl) (Nat.le_of_ble_eq_true rfl) (bw_kki ?_)
      refine rl_eq (tgt := 1475) dL_law_330 (by decide) ?_
      refine rl_widen (cu' := cu + 3) (su' := su + 196) (by omega) (by omega) (by omega) (by omega) ?_
      exact rl_sub (rw_lc rfl (rw_lc rfl (rw_lc rfl (rw_lc rfl rw_lz)))) (k _ M2 hI2)
    refine rl_ifeq (tgt := 326) dL_law_319 (by decide) (fun c => ?_) (fun c => ?_)
    · refine rl_iconst (v := 0) dL_law_326 (by decide) ?_
      rw [if_pos c] at kz
      exact rl_sub (rw_lc rfl (rw_lc rfl (rw_lc rfl (rw_lc rfl rw_lz)))) kz
    · refine rl_iconst (v := 1) dL_law_322 (by decide) ?_
      refine rl_goto (tgt := 327) dL_law_323 (by decide) ?_
      rw [if_neg c] at kz
      exact rl_sub (rw_lc rfl (rw_lc rfl (rw_lc rfl (rw_lc rfl rw_lz)))) kz
  refine rl_ifeq (tgt := 304) dL_law_297 (by decide) (fun c => ?_) (fun c => ?_)
  · refine rl_iconst (v := 0) dL_law_304 (by decide) ?_
    rw [if_pos c] at kz
    exact rl_sub (rw_lc rfl (rw_lc rfl (rw_lc rfl (rw_lc rfl rw_lz)))) kz
  · refine rl_iconst (v := 1) dL_law_300 (by decide) ?_
    refine rl_goto (tgt := 305) dL_law_301 (by decide) ?_
    rw [if_neg c] at kz
    exact rl_sub (rw_lc rfl (rw_lc rfl (rw_lc rfl (rw_lc rfl rw_lz)))) kz
set_option maxRecDepth 20000 in
set_option maxHeartbeats 1000000 in
theorem li_deal {Inv : Nat → Mem → Prop} (hop : Op_deal Inv) {w : WE} {b L n cu su : Nat} {xs : Nat → Int32} {M : Mem} (hn : n < 512) (hL : 6 * n + 6 ≤ L) (hL2 : L ≤ 3072) (hc : cu + 3 ≤ 600000) (hs : su + 196 ≤ 7302250) (hI : Inv n M) (k : ∀ (w' : WE) (M2 : Mem), Inv (n + 1) M2 → RQ w' b L xs (cu + 3) (su + 196) 1475 [(0, .ref b), (1, .ref (bw_ad w' 0)), (2, .ref (bw_ad w' 93)), (3, .int (nI (6 * n)))] [] M2) : RQ w b L xs cu su 335 [(0, .ref b), (1, .ref (bw_ad w 0)), (2, .ref (bw_ad w 93)), (3, .int (nI (6 * n)))] [] M := by
  obtain ⟨r, M1, M2, h1, h2, hI2⟩ := hop n M (xs (6 * n + 1)) hn hI
  refine rl_aload_n dL_law_335 rfl rfl ?_
  refine rl_aload_n dL_law_336 rfl rfl ?_
  refine rl_iload_n dL_law_337 rfl rfl ?_
  refine rl_iconst (v := 1) dL_law_338 (by decide) ?_
  refine rl_iadd dL_law_339 ?_
  refine rq_ti (y := nI (6 * n + 1)) (nI_add (6 * n) 1).symm ?_
  refine rl_ld dL_law_340 (vp_in_nI (by omega) (by omega)) ?_
  refine rq_ti (y := xs (6 * n + 1)) (by rw [nI_clamp (by omega)]) ?_
  refine rl_call1 dL_law_341 ln_L_27 mv_X9_deal (sh_x w) (bw_kl (by decide)) (ct_X9_deal h1) (Nat.le_of_ble_eq_true rfl) (Nat.le_of_ble_eq_true rfl) (bw_kki ?_)
  refine rl_aload_n dL_law_344 rfl rfl ?_
  refine rl_aload_n dL_law_345 rfl rfl ?_
  refine rl_iload_n dL_law_346 rfl rfl ?_
  refine rl_iconst (v := 1) dL_law_347 (by decide) ?_
  refine rl_iadd dL_law_348 ?_
  refine rq_ti (y := nI (6 * n + 1)) (nI_add (6 * n) 1).symm ?_
  refine rl_ld dL_law_349 (vp_in_nI (by omega) (by omega)) ?_
  refine rq_ti (y := xs (6 * n + 1)) (by rw [nI_clamp (by omega)]) ?_
  refine rl_call1 dL_law_350 ln_L_31 mv_X10_deal (sh_m w) (bw_kl (by decide)) (ct_X10_deal h2) (Nat.le_of_ble_eq_true rfl) (Nat.le_of_ble_eq_true rfl) (bw_kki ?_)
  refine rl_eq (tgt := 1475) dL_law_353 (by decide) ?_
  refine rl_widen (cu' := cu + 3) (su' := su + 196) (by omega) (by omega) (by omega) (by omega) ?_
  exact rl_sub (rw_lc rfl (rw_lc rfl (rw_lc rfl (rw_lc rfl rw_lz)))) (k _ M2 hI2)
set_option maxRecDepth 20000 in
set_option maxHeartbeats 1000000 in
theorem li_seed {Inv : Nat → Mem → Prop} (hop : Op_seed Inv) {w : WE} {b L n cu su : Nat} {xs : Nat → Int32} {M : Mem} (hn : n < 512) (hL : 6 * n + 6 ≤ L) (hL2 : L ≤ 3072) (hc : cu + 3 ≤ 600000) (hs : su + 196 ≤ 7302250) (hI : Inv n M) (k : ∀ (w' : WE) (M2 : Mem), Inv (n + 1) M2 → RQ w' b L xs (cu + 3) (su + 196) 1475 [(0, .ref b), (1, .ref (bw_ad w' 0)), (2, .ref (bw_ad w' 93)), (3, .int (nI (6 * n)))] [] M2) : RQ w b L xs cu su 358 [(0, .ref b), (1, .ref (bw_ad w 0)), (2, .ref (bw_ad w 93)), (3, .int (nI (6 * n)))] [] M := by
  obtain ⟨r, M1, M2, h1, h2, hI2⟩ := hop n M (xs (6 * n + 1)) hn hI
  refine rl_aload_n dL_law_358 rfl rfl ?_
  refine rl_aload_n dL_law_359 rfl rfl ?_
  refine rl_iload_n dL_law_360 rfl rfl ?_
  refine rl_iconst (v := 1) dL_law_361 (by decide) ?_
  refine rl_iadd dL_law_362 ?_
  refine rq_ti (y := nI (6 * n + 1)) (nI_add (6 * n) 1).symm ?_
  refine rl_ld dL_law_363 (vp_in_nI (by omega) (by omega)) ?_
  refine rq_ti (y := xs (6 * n + 1)) (by rw [nI_clamp (by omega)]) ?_
  refine rl_call1 dL_law_364 ln_L_32 mv_X9_seed (sh_x w) (bw_kl (by decide)) (ct_X9_seed h1) (Nat.le_of_ble_eq_true rfl) (Nat.le_of_ble_eq_true rfl) (bw_kki ?_)
  refine rl_aload_n dL_law_367 rfl rfl ?_
  refine rl_aload_n dL_law_368 rfl rfl ?_
  refine rl_iload_n dL_law_369 rfl rfl ?_
  refine rl_iconst (v := 1) dL_law_370 (by decide) ?_
  refine rl_iadd dL_law_371 ?_
  refine rq_ti (y := nI (6 * n + 1)) (nI_add (6 * n) 1).symm ?_
  refine rl_ld dL_law_372 (vp_in_nI (by omega) (by omega)) ?_
  refine rq_ti (y := xs (6 * n + 1)) (by rw [nI_clamp (by omega)]) ?_
  refine rl_call1 dL_law_373 ln_L_35 mv_X10_seed (sh_m w) (bw_kl (by decide)) (ct_X10_seed h2) (Nat.le_of_ble_eq_true rfl) (Nat.le_of_ble_eq_true rfl) (bw_kki ?_)
  refine rl_eq (tgt := 1475) dL_law_376 (by decide) ?_
  refine rl_widen (cu' := cu + 3) (su' := su + 196) (by omega) (by omega) (by omega) (by omega) ?_
  exact rl_sub (rw_lc rfl (rw_lc rfl (rw_lc rfl (rw_lc rfl rw_lz)))) (k _ M2 hI2)
set_option maxRecDepth 20000 in
set_option maxHeartbeats 1000000 in
theorem li_set {Inv : Nat → Mem → Prop} (hop : Op_set Inv) {w : WE} {b L n cu su : Nat} {xs : Nat → Int32} {M : Mem} (hn : n < 512) (hL : 6 * n + 6 ≤ L) (hL2 : L ≤ 3072) (hc : cu + 3 ≤ 600000) (hs : su + 196 ≤ 7302250) (hI : Inv n M) (k : ∀ (w' : WE) (M2 : Mem), Inv (n + 1) M2 → RQ w' b L xs (cu + 3) (su + 196) 1475 [(0, .ref b), (1, .ref (bw_ad w' 0)), (2, .ref (bw_ad w' 93)), (3, .int (nI (6 * n)))] [] M2) : RQ w b L xs cu su 381 [(0, .ref b), (1, .ref (bw_ad w 0)), (2, .ref (bw_ad w 93)), (3, .int (nI (6 * n)))] [] M := by
  obtain ⟨r, M1, M2, h1, h2, hI2⟩ := hop n M (xs (6 * n + 1)) (xs (6 * n + 2)) hn hI
  refine rl_aload_n dL_law_381 rfl rfl ?_
  refine rl_aload_n dL_law_382 rfl rfl ?_
  refine rl_iload_n dL_law_383 rfl rfl ?_
  refine rl_iconst (v := 1) dL_law_384 (by decide) ?_
  refine rl_iadd dL_law_385 ?_
  refine rq_ti (y := nI (6 * n + 1)) (nI_add (6 * n) 1).symm ?_
  refine rl_ld dL_law_386 (vp_in_nI (by omega) (by omega)) ?_
  refine rq_ti (y := xs (6 * n + 1)) (by rw [nI_clamp (by omega)]) ?_
  refine rl_aload_n dL_law_387 rfl rfl ?_
  refine rl_iload_n dL_law_388 rfl rfl ?_
  refine rl_iconst (v := 2) dL_law_389 (by decide) ?_
  refine rl_iadd dL_law_390 ?_
  refine rq_ti (y := nI (6 * n + 2)) (nI_add (6 * n) 2).symm ?_
  refine rl_ld dL_law_391 (vp_in_nI (by omega) (by omega)) ?_
  refine rq_ti (y := xs (6 * n + 2)) (by rw [nI_clamp (by omega)]) ?_
  refine rl_call2 dL_law_392 ln_L_36 mv_X9_set (sh_x w) (bw_kl (by decide)) (ct_X9_set h1) (Nat.le_of_ble_eq_true rfl) (Nat.le_of_ble_eq_true rfl) (bw_kki ?_)
  refine rl_aload_n dL_law_395 rfl rfl ?_
  refine rl_aload_n dL_law_396 rfl rfl ?_
  refine rl_iload_n dL_law_397 rfl rfl ?_
  refine rl_iconst (v := 1) dL_law_398 (by decide) ?_
  refine rl_iadd dL_law_399 ?_
  refine rq_ti (y := nI (6 * n + 1)) (nI_add (6 * n) 1).symm ?_
  refine rl_ld dL_law_400 (vp_in_nI (by omega) (by omega)) ?_
  refine rq_ti (y := xs (6 * n + 1)) (by rw [nI_clamp (by omega)]) ?_
  refine rl_aload_n dL_law_401 rfl rfl ?_
  refine rl_iload_n dL_law_402 rfl rfl ?_
  refine rl_iconst (v := 2) dL_law_403 (by decide) ?_
  refine rl_iadd dL_law_404 ?_
  refine rq_ti (y := nI (6 * n + 2)) (nI_add (6 * n) 2).symm ?_
  refine rl_ld dL_law_405 (vp_in_nI (by omega) (by omega)) ?_
  refine rq_ti (y := xs (6 * n + 2)) (by rw [nI_clamp (by omega)]) ?_
  refine rl_call2 dL_law_406 ln_L_39 mv_X10_set (sh_m w) (bw_kl (by decide)) (ct_X10_set h2) (Nat.le_of_ble_eq_true rfl) (Nat.le_of_ble_eq_true rfl) (bw_kki ?_)
  refine rl_eq (tgt := 1475) dL_law_409 (by decide) ?_
  refine rl_widen (cu' := cu + 3) (su' := su + 196) (by omega) (by omega) (by omega) (by omega) ?_
  exact rl_sub (rw_lc rfl (rw_lc rfl (rw_lc rfl (rw_lc rfl rw_lz)))) (k _ M2 hI2)
set_option maxRecDepth 20000 in
set_option maxHeartbeats 1000000 in
theorem li_board {Inv : Nat → Mem → Prop} (hop : Op_board Inv) {w : WE} {b L n cu su : Nat} {xs : Nat → Int32} {M : Mem} (hn : n < 512) (hL : 6 * n + 6 ≤ L) (hL2 : L ≤ 3072) (hc : cu + 3 ≤ 600000) (hs : su + 196 ≤ 7302250) (hI : Inv n M) (k : ∀ (w' : WE) (M2 : Mem), Inv (n + 1) M2 → RQ w' b L xs (cu + 3) (su + 196) 1475 [(0, .ref b), (1, .ref (bw_ad w' 0)), (2, .ref (bw_ad w' 93)), (3, .int (nI (6 * n)))] [] M2) : RQ w b L xs cu su 414 [(0, .ref b), (1, .ref (bw_ad w 0)), (2, .ref (bw_ad w 93)), (3, .int (nI (6 * n)))] [] M := by
  obtain ⟨r, M1, M2, h1, h2, hI2⟩ := hop n M (xs (6 * n + 1)) (xs (6 * n + 2)) (xs (6 * n + 3)) hn hI
  refine rl_aload_n dL_law_414 rfl rfl ?_
  refine rl_aload_n dL_law_415 rfl rfl ?_
  refine rl_iload_n dL_law_416 rfl rfl ?_
  refine rl_iconst (v := 1) dL_law_417 (by decide) ?_
  refine rl_iadd dL_law_418 ?_
  refine rq_ti (y := nI (6 * n + 1)) (nI_add (6 * n) 1).symm ?_
  refine rl_ld dL_law_419 (vp_in_nI (by omega) (by omega)) ?_
  refine rq_ti (y := xs (6 * n + 1)) (by rw [nI_clamp (by omega)]) ?_
  refine rl_aload_n dL_law_420 rfl rfl ?_
  refine rl_iload_n dL_law_421 rfl rfl ?_
  refine rl_iconst (v := 2) dL_law_422 (by decide) ?_
  refine rl_iadd dL_law_423 ?_
  refine rq_ti (y := nI (6 * n + 2)) (nI_add (6 * n) 2).symm ?_
  refine rl_ld dL_law_424 (vp_in_nI (by omega) (by omega)) ?_
  refine rq_ti (y := xs (6 * n + 2)) (by rw [nI_clamp (by omega)]) ?_
  refine rl_aload_n dL_law_425 rfl rfl ?_
  refine rl_iload_n dL_law_426 rfl rfl ?_
  refine rl_iconst (v := 3) dL_law_427 (by decide) ?_
  refine rl_iadd dL_law_428 ?_
  refine rq_ti (y := nI (6 * n + 3)) (nI_add (6 * n) 3).symm ?_
  refine rl_ld dL_law_429 (vp_in_nI (by omega) (by omega)) ?_
  refine rq_ti (y := xs (6 * n + 3)) (by rw [nI_clamp (by omega)]) ?_
  refine rl_call3 dL_law_430 ln_L_40 mv_X9_board (sh_x w) (bw_kl (by decide)) (ct_X9_board h1) (Nat.le_of_ble_eq_true rfl) (Nat.le_of_ble_eq_true rfl) (bw_kki ?_)
  refine rl_aload_n dL_law_433 rfl rfl ?_
  refine rl_aload_n dL_law_434 rfl rfl ?_
  refine rl_iload_n dL_law_435 rfl rfl ?_
  refine rl_iconst (v := 1) dL_law_436 (by decide) ?_
  refine rl_iadd dL_law_437 ?_
  refine rq_ti (y := nI (6 * n + 1)) (nI_add (6 * n) 1).symm ?_
  refine rl_ld dL_law_438 (vp_in_nI (by omega) (by omega)) ?_
  refine rq_ti (y := xs (6 * n + 1)) (by rw [nI_clamp (by omega)]) ?_
  refine rl_aload_n dL_law_439 rfl rfl ?_
  refine rl_iload_n dL_law_440 rfl rfl ?_
  refine rl_iconst (v := 2) dL_law_441 (by decide) ?_
  refine rl_iadd dL_law_442 ?_
  refine rq_ti (y := nI (6 * n + 2)) (nI_add (6 * n) 2).symm ?_
  refine rl_ld dL_law_443 (vp_in_nI (by omega) (by omega)) ?_
  refine rq_ti (y := xs (6 * n + 2)) (by rw [nI_clamp (by omega)]) ?_
  refine rl_aload_n dL_law_444 rfl rfl ?_
  refine rl_iload_n dL_law_445 rfl rfl ?_
  refine rl_iconst (v := 3) dL_law_446 (by decide) ?_
  refine rl_iadd dL_law_447 ?_
  refine rq_ti (y := nI (6 * n + 3)) (nI_add (6 * n) 3).symm ?_
  refine rl_ld dL_law_448 (vp_in_nI (by omega) (by omega)) ?_
  refine rq_ti (y := xs (6 * n + 3)) (by rw [nI_clamp (by omega)]) ?_
  refine rl_call3 dL_law_449 ln_L_44 mv_X10_board (sh_m w) (bw_kl (by decide)) (ct_X10_board h2) (Nat.le_of_ble_eq_true rfl) (Nat.le_of_ble_eq_true rfl) (bw_kki ?_)
  refine rl_eq (tgt := 1475) dL_law_452 (by decide) ?_
  refine rl_widen (cu' := cu + 3) (su' := su + 196) (by omega) (by omega) (by omega) (by omega) ?_
  exact rl_sub (rw_lc rfl (rw_lc rfl (rw_lc rfl (rw_lc rfl rw_lz)))) (k _ M2 hI2)
set_option maxRecDepth 20000 in
set_option maxHeartbeats 1000000 in
theorem li_told {Inv : Nat → Mem → Prop} (hop : Op_told Inv) {w : WE} {b L n cu su : Nat} {xs : Nat → Int32} {M : Mem} (hn : n < 512) (hL : 6 * n + 6 ≤ L) (hL2 : L ≤ 3072) (hc : cu + 3 ≤ 600000) (hs : su + 196 ≤ 7302250) (hI : Inv n M) (k : ∀ (w' : WE) (M2 : Mem), Inv (n + 1) M2 → RQ w' b L xs (cu + 3) (su + 196) 1475 [(0, .ref b), (1, .ref (bw_ad w' 0)), (2, .ref (bw_ad w' 93)), (3, .int (nI (6 * n)))] [] M2) : RQ w b L xs cu su 457 [(0, .ref b), (1, .ref (bw_ad w 0)), (2, .ref (bw_ad w 93)), (3, .int (nI (6 * n)))] [] M := by
  obtain ⟨r, M1, M2, h1, h2, hI2⟩ := hop n M (xs (6 * n + 1)) (xs (6 * n + 2)) hn hI
  obtain ⟨h1, rfl⟩ := h1
  obtain ⟨h2, rfl⟩ := h2
  refine rl_aload_n dL_law_457 rfl rfl ?_
  refine rl_aload_n dL_law_458 rfl rfl ?_
  refine rl_iload_n dL_law_459 rfl rfl ?_
  refine rl_iconst (v := 1) dL_law_460 (by decide) ?_
  refine rl_iadd dL_law_461 ?_
  refine rq_ti (y := nI (6 * n + 1)) (nI_add (6 * n) 1).symm ?_
  refine rl_ld dL_law_462 (vp_in_nI (by omega) (by omega)) ?_
  refine rq_ti (y := xs (6 * n + 1)) (by rw [nI_clamp (by omega)]) ?_
  refine rl_aload_n dL_law_463 rfl rfl ?_
  refine rl_iload_n dL_law_464 rfl rfl ?_
  refine rl_iconst (v := 2) dL_law_465 (by decide) ?_
  refine rl_iadd dL_law_466 ?_
  refine rq_ti (y := nI (6 * n + 2)) (nI_add (6 * n) 2).symm ?_
  refine rl_ld dL_law_467 (vp_in_nI (by omega) (by omega)) ?_
  refine rq_ti (y := xs (6 * n + 2)) (by rw [nI_clamp (by omega)]) ?_
  refine rl_call2 dL_law_468 ln_L_45 mv_X9_told (sh_x w) (bw_kl (by decide)) (ct_X9_told h1) (Nat.le_of_ble_eq_true rfl) (Nat.le_of_ble_eq_true rfl) (bw_kki ?_)
  refine rl_aload_n dL_law_471 rfl rfl ?_
  refine rl_aload_n dL_law_472 rfl rfl ?_
  refine rl_iload_n dL_law_473 rfl rfl ?_
  refine rl_iconst (v := 1) dL_law_474 (by decide) ?_
  refine rl_iadd dL_law_475 ?_
  refine rq_ti (y := nI (6 * n + 1)) (nI_add (6 * n) 1).symm ?_
  refine rl_ld dL_law_476 (vp_in_nI (by omega) (by omega)) ?_
  refine rq_ti (y := xs (6 * n + 1)) (by rw [nI_clamp (by omega)]) ?_
  refine rl_aload_n dL_law_477 rfl rfl ?_
  refine rl_iload_n dL_law_478 rfl rfl ?_
  refine rl_iconst (v := 2) dL_law_479 (by decide) ?_
  refine rl_iadd dL_law_480 ?_
  refine rq_ti (y := nI (6 * n + 2)) (nI_add (6 * n) 2).symm ?_
  refine rl_ld dL_law_481 (vp_in_nI (by omega) (by omega)) ?_
  refine rq_ti (y := xs (6 * n + 2)) (by rw [nI_clamp (by omega)]) ?_
  refine rl_call2 dL_law_482 ln_L_48 mv_X10_told (sh_m w) (bw_kl (by decide)) (ct_X10_told h2) (Nat.le_of_ble_eq_true rfl) (Nat.le_of_ble_eq_true rfl) (bw_kki ?_)
  refine rl_eq (tgt := 1475) dL_law_485 (by decide) ?_
  refine rl_widen (cu' := cu + 3) (su' := su + 196) (by omega) (by omega) (by omega) (by omega) ?_
  exact rl_sub (rw_lc rfl (rw_lc rfl (rw_lc rfl (rw_lc rfl rw_lz)))) (k _ M2 hI2)
set_option maxRecDepth 20000 in
set_option maxHeartbeats 1000000 in
theorem li_as {Inv : Nat → Mem → Prop} (hop : Op_as Inv) {w : WE} {b L n cu su : Nat} {xs : Nat → Int32} {M : Mem} (hn : n < 512) (hL : 6 * n + 6 ≤ L) (hL2 : L ≤ 3072) (hc : cu + 3 ≤ 600000) (hs : su + 196 ≤ 7302250) (hI : Inv n M) (k : ∀ (w' : WE) (M2 : Mem), Inv (n + 1) M2 → RQ w' b L xs (cu + 3) (su + 196) 1475 [(0, .ref b), (1, .ref (bw_ad w' 0)), (2, .ref (bw_ad w' 93)), (3, .int (nI (6 * n)))] [] M2) : RQ w b L xs cu su 490 [(0, .ref b), (1, .ref (bw_ad w 0)), (2, .ref (bw_ad w 93)), (3, .int (nI (6 * n)))] [] M := by
  obtain ⟨r, M1, M2, h1, h2, hI2⟩ := hop n M (xs (6 * n + 1)) (xs (6 * n + 2)) hn hI
  obtain ⟨h1, rfl⟩ := h1
  obtain ⟨h2, rfl⟩ := h2
  refine rl_aload_n dL_law_490 rfl rfl ?_
  refine rl_aload_n dL_law_491 rfl rfl ?_
  refine rl_iload_n dL_law_492 rfl rfl ?_
  refine rl_iconst (v := 1) dL_law_493 (by decide) ?_
  refine rl_iadd dL_law_494 ?_
  refine rq_ti (y := nI (6 * n + 1)) (nI_add (6 * n) 1).symm ?_
  refine rl_ld dL_law_495 (vp_in_nI (by omega) (by omega)) ?_
  refine rq_ti (y := xs (6 * n + 1)) (by rw [nI_clamp (by omega)]) ?_
  refine rl_aload_n dL_law_496 rfl rfl ?_
  refine rl_iload_n dL_law_497 rfl rfl ?_
  refine rl_iconst (v := 2) dL_law_498 (by decide) ?_
  refine rl_iadd dL_law_499 ?_
  refine rq_ti (y := nI (6 * n + 2)) (nI_add (6 * n) 2).symm ?_
  refine rl_ld dL_law_500 (vp_in_nI (by omega) (by omega)) ?_
  refine rq_ti (y := xs (6 * n + 2)) (by rw [nI_clamp (by omega)]) ?_
  refine rl_call2 dL_law_501 ln_L_49 mv_X9_as (sh_x w) (bw_kl (by decide)) (ct_X9_as h1) (Nat.le_of_ble_eq_true rfl) (Nat.le_of_ble_eq_true rfl) (bw_kki ?_)
  refine rl_aload_n dL_law_504 rfl rfl ?_
  refine rl_aload_n dL_law_505 rfl rfl ?_
  refine rl_iload_n dL_law_506 rfl rfl ?_
  refine rl_iconst (v := 1) dL_law_507 (by decide) ?_
  refine rl_iadd dL_law_508 ?_
  refine rq_ti (y := nI (6 * n + 1)) (nI_add (6 * n) 1).symm ?_
  refine rl_ld dL_law_509 (vp_in_nI (by omega) (by omega)) ?_
  refine rq_ti (y := xs (6 * n + 1)) (by rw [nI_clamp (by omega)]) ?_
  refine rl_aload_n dL_law_510 rfl rfl ?_
  refine rl_iload_n dL_law_511 rfl rfl ?_
  refine rl_iconst (v := 2) dL_law_512 (by decide) ?_
  refine rl_iadd dL_law_513 ?_
  refine rq_ti (y := nI (6 * n + 2)) (nI_add (6 * n) 2).symm ?_
  refine rl_ld dL_law_514 (vp_in_nI (by omega) (by omega)) ?_
  refine rq_ti (y := xs (6 * n + 2)) (by rw [nI_clamp (by omega)]) ?_
  refine rl_call2 dL_law_515 ln_L_52 mv_X10_as (sh_m w) (bw_kl (by decide)) (ct_X10_as h2) (Nat.le_of_ble_eq_true rfl) (Nat.le_of_ble_eq_true rfl) (bw_kki ?_)
  refine rl_eq (tgt := 1475) dL_law_518 (by decide) ?_
  refine rl_widen (cu' := cu + 3) (su' := su + 196) (by omega) (by omega) (by omega) (by omega) ?_
  exact rl_sub (rw_lc rfl (rw_lc rfl (rw_lc rfl (rw_lc rfl rw_lz)))) (k _ M2 hI2)
set_option maxRecDepth 20000 in
set_option maxHeartbeats 1000000 in
theorem li_turns {Inv : Nat → Mem → Prop} (hop : Op_turns Inv) {w : WE} {b L n cu su : Nat} {xs : Nat → Int32} {M : Mem} (hn : n < 512) (hL : 6 * n + 6 ≤ L) (hL2 : L ≤ 3072) (hc : cu + 3 ≤ 600000) (hs : su + 196 ≤ 7302250) (hI : Inv n M) (k : ∀ (w' : WE) (M2 : Mem), Inv (n + 1) M2 → RQ w' b L xs (cu + 3) (su + 196) 1475 [(0, .ref b), (1, .ref (bw_ad w' 0)), (2, .ref (bw_ad w' 93)), (3, .int (nI (6 * n)))] [] M2) : RQ w b L xs cu su 523 [(0, .ref b), (1, .ref (bw_ad w 0)), (2, .ref (bw_ad w 93)), (3, .int (nI (6 * n)))] [] M := by
  obtain ⟨r, M1, M2, h1, h2, hI2⟩ := hop n M (xs (6 * n + 1)) (xs (6 * n + 2)) hn hI
  refine rl_aload_n dL_law_523 rfl rfl ?_
  refine rl_aload_n dL_law_524 rfl rfl ?_
  refine rl_iload_n dL_law_525 rfl rfl ?_
  refine rl_iconst (v := 1) dL_law_526 (by decide) ?_
  refine rl_iadd dL_law_527 ?_
  refine rq_ti (y := nI (6 * n + 1)) (nI_add (6 * n) 1).symm ?_
  refine rl_ld dL_law_528 (vp_in_nI (by omega) (by omega)) ?_
  refine rq_ti (y := xs (6 * n + 1)) (by rw [nI_clamp (by omega)]) ?_
  refine rl_aload_n dL_law_529 rfl rfl ?_
  refine rl_iload_n dL_law_530 rfl rfl ?_
  refine rl_iconst (v := 2) dL_law_531 (by decide) ?_
  refine rl_iadd dL_law_532 ?_
  refine rq_ti (y := nI (6 * n + 2)) (nI_add (6 * n) 2).symm ?_
  refine rl_ld dL_law_533 (vp_in_nI (by omega) (by omega)) ?_
  refine rq_ti (y := xs (6 * n + 2)) (by rw [nI_clamp (by omega)]) ?_
  refine rl_call2 dL_law_534 ln_L_53 mv_X9_turns (sh_x w) (bw_kl (by decide)) (ct_X9_turns h1) (Nat.le_of_ble_eq_true rfl) (Nat.le_of_ble_eq_true rfl) (bw_kki ?_)
  refine rl_aload_n dL_law_537 rfl rfl ?_
  refine rl_aload_n dL_law_538 rfl rfl ?_
  refine rl_iload_n dL_law_539 rfl rfl ?_
  refine rl_iconst (v := 1) dL_law_540 (by decide) ?_
  refine rl_iadd dL_law_541 ?_
  refine rq_ti (y := nI (6 * n + 1)) (nI_add (6 * n) 1).symm ?_
  refine rl_ld dL_law_542 (vp_in_nI (by omega) (by omega)) ?_
  refine rq_ti (y := xs (6 * n + 1)) (by rw [nI_clamp (by omega)]) ?_
  refine rl_aload_n dL_law_543 rfl rfl ?_
  refine rl_iload_n dL_law_544 rfl rfl ?_
  refine rl_iconst (v := 2) dL_law_545 (by decide) ?_
  refine rl_iadd dL_law_546 ?_
  refine rq_ti (y := nI (6 * n + 2)) (nI_add (6 * n) 2).symm ?_
  refine rl_ld dL_law_547 (vp_in_nI (by omega) (by omega)) ?_
  refine rq_ti (y := xs (6 * n + 2)) (by rw [nI_clamp (by omega)]) ?_
  refine rl_call2 dL_law_548 ln_L_56 mv_X10_turns (sh_m w) (bw_kl (by decide)) (ct_X10_turns h2) (Nat.le_of_ble_eq_true rfl) (Nat.le_of_ble_eq_true rfl) (bw_kki ?_)
  refine rl_eq (tgt := 1475) dL_law_551 (by decide) ?_
  refine rl_widen (cu' := cu + 3) (su' := su + 196) (by omega) (by omega) (by omega) (by omega) ?_
  exact rl_sub (rw_lc rfl (rw_lc rfl (rw_lc rfl (rw_lc rfl rw_lz)))) (k _ M2 hI2)
set_option maxRecDepth 20000 in
set_option maxHeartbeats 1000000 in
theorem li_drop {Inv : Nat → Mem → Prop} (hop : Op_drop Inv) {w : WE} {b L n cu su : Nat} {xs : Nat → Int32} {M : Mem} (hn : n < 512) (hL : 6 * n + 6 ≤ L) (hL2 : L ≤ 3072) (hc : cu + 3 ≤ 600000) (hs : su + 196 ≤ 7302250) (hI : Inv n M) (k : ∀ (w' : WE) (M2 : Mem), Inv (n + 1) M2 → RQ w' b L xs (cu + 3) (su + 196) 1475 [(0, .ref b), (1, .ref (bw_ad w' 0)), (2, .ref (bw_ad w' 93)), (3, .int (nI (6 * n)))] [] M2) : RQ w b L xs cu su 556 [(0, .ref b), (1, .ref (bw_ad w 0)), (2, .ref (bw_ad w 93)), (3, .int (nI (6 * n)))] [] M := by
  obtain ⟨r, M1, M2, h1, h2, hI2⟩ := hop n M (xs (6 * n + 1)) hn hI
  refine rl_aload_n dL_law_556 rfl rfl ?_
  refine rl_aload_n dL_law_557 rfl rfl ?_
  refine rl_iload_n dL_law_558 rfl rfl ?_
  refine rl_iconst (v := 1) dL_law_559 (by decide) ?_
  refine rl_iadd dL_law_560 ?_
  refine rq_ti (y := nI (6 * n + 1)) (nI_add (6 * n) 1).symm ?_
  refine rl_ld dL_law_561 (vp_in_nI (by omega) (by omega)) ?_
  refine rq_ti (y := xs (6 * n + 1)) (by rw [nI_clamp (by omega)]) ?_
  refine rl_call1 dL_law_562 ln_L_57 mv_X9_drop (sh_x w) (bw_kl (by decide)) (ct_X9_drop h1) (Nat.le_of_ble_eq_true rfl) (Nat.le_of_ble_eq_true rfl) (bw_kki ?_)
  refine rl_aload_n dL_law_565 rfl rfl ?_
  refine rl_aload_n dL_law_566 rfl rfl ?_
  refine rl_iload_n dL_law_567 rfl rfl ?_
  refine rl_iconst (v := 1) dL_law_568 (by decide) ?_
  refine rl_iadd dL_law_569 ?_
  refine rq_ti (y := nI (6 * n + 1)) (nI_add (6 * n) 1).symm ?_
  refine rl_ld dL_law_570 (vp_in_nI (by omega) (by omega)) ?_
  refine rq_ti (y := xs (6 * n + 1)) (by rw [nI_clamp (by omega)]) ?_
  refine rl_call1 dL_law_571 ln_L_60 mv_X10_drop (sh_m w) (bw_kl (by decide)) (ct_X10_drop h2) (Nat.le_of_ble_eq_true rfl) (Nat.le_of_ble_eq_true rfl) (bw_kki ?_)
  refine rl_eq (tgt := 1475) dL_law_574 (by decide) ?_
  refine rl_widen (cu' := cu + 3) (su' := su + 196) (by omega) (by omega) (by omega) (by omega) ?_
  exact rl_sub (rw_lc rfl (rw_lc rfl (rw_lc rfl (rw_lc rfl rw_lz)))) (k _ M2 hI2)
set_option maxRecDepth 20000 in
set_option maxHeartbeats 1000000 in
theorem li_judge {Inv : Nat → Mem → Prop} (hop : Op_judge Inv) {w : WE} {b L n cu su : Nat} {xs : Nat → Int32} {M : Mem} (hn : n < 512) (hL : 6 * n + 6 ≤ L) (hL2 : L ≤ 3072) (hc : cu + 3 ≤ 600000) (hs : su + 196 ≤ 7302250) (hI : Inv n M) (k : ∀ (w' : WE) (M2 : Mem), Inv (n + 1) M2 → RQ w' b L xs (cu + 3) (su + 196) 1475 [(0, .ref b), (1, .ref (bw_ad w' 0)), (2, .ref (bw_ad w' 93)), (3, .int (nI (6 * n)))] [] M2) : RQ w b L xs cu su 579 [(0, .ref b), (1, .ref (bw_ad w 0)), (2, .ref (bw_ad w 93)), (3, .int (nI (6 * n)))] [] M := by
  obtain ⟨r, M1, M2, h1, h2, hI2⟩ := hop n M (xs (6 * n + 1)) hn hI
  obtain ⟨h1, rfl⟩ := h1
  obtain ⟨h2, rfl⟩ := h2
  refine rl_aload_n dL_law_579 rfl rfl ?_
  refine rl_aload_n dL_law_580 rfl rfl ?_
  refine rl_iload_n dL_law_581 rfl rfl ?_
  refine rl_iconst (v := 1) dL_law_582 (by decide) ?_
  refine rl_iadd dL_law_583 ?_
  refine rq_ti (y := nI (6 * n + 1)) (nI_add (6 * n) 1).symm ?_
  refine rl_ld dL_law_584 (vp_in_nI (by omega) (by omega)) ?_
  refine rq_ti (y := xs (6 * n + 1)) (by rw [nI_clamp (by omega)]) ?_
  refine rl_call1 dL_law_585 ln_L_61 mv_X9_judge (sh_x w) (bw_kl (by decide)) (ct_X9_judge h1) (Nat.le_of_ble_eq_true rfl) (Nat.le_of_ble_eq_true rfl) (bw_kki ?_)
  refine rl_aload_n dL_law_588 rfl rfl ?_
  refine rl_aload_n dL_law_589 rfl rfl ?_
  refine rl_iload_n dL_law_590 rfl rfl ?_
  refine rl_iconst (v := 1) dL_law_591 (by decide) ?_
  refine rl_iadd dL_law_592 ?_
  refine rq_ti (y := nI (6 * n + 1)) (nI_add (6 * n) 1).symm ?_
  refine rl_ld dL_law_593 (vp_in_nI (by omega) (by omega)) ?_
  refine rq_ti (y := xs (6 * n + 1)) (by rw [nI_clamp (by omega)]) ?_
  refine rl_call1 dL_law_594 ln_L_64 mv_X10_judge (sh_m w) (bw_kl (by decide)) (ct_X10_judge h2) (Nat.le_of_ble_eq_true rfl) (Nat.le_of_ble_eq_true rfl) (bw_kki ?_)
  refine rl_eq (tgt := 1475) dL_law_597 (by decide) ?_
  refine rl_widen (cu' := cu + 3) (su' := su + 196) (by omega) (by omega) (by omega) (by omega) ?_
  exact rl_sub (rw_lc rfl (rw_lc rfl (rw_lc rfl (rw_lc rfl rw_lz)))) (k _ M2 hI2)
set_option maxRecDepth 20000 in
set_option maxHeartbeats 1000000 in
theorem li_setting {Inv : Nat → Mem → Prop} (hop : Op_setting Inv) {w : WE} {b L n cu su : Nat} {xs : Nat → Int32} {M : Mem} (hn : n < 512) (hL : 6 * n + 6 ≤ L) (hL2 : L ≤ 3072) (hc : cu + 3 ≤ 600000) (hs : su + 196 ≤ 7302250) (hI : Inv n M) (k : ∀ (w' : WE) (M2 : Mem), Inv (n + 1) M2 → RQ w' b L xs (cu + 3) (su + 196) 1475 [(0, .ref b), (1, .ref (bw_ad w' 0)), (2, .ref (bw_ad w' 93)), (3, .int (nI (6 * n)))] [] M2) : RQ w b L xs cu su 602 [(0, .ref b), (1, .ref (bw_ad w 0)), (2, .ref (bw_ad w 93)), (3, .int (nI (6 * n)))] [] M := by
  obtain ⟨r, M1, M2, h1, h2, hI2⟩ := hop n M (xs (6 * n + 1)) hn hI
  refine rl_aload_n dL_law_602 rfl rfl ?_
  refine rl_aload_n dL_law_603 rfl rfl ?_
  refine rl_iload_n dL_law_604 rfl rfl ?_
  refine rl_iconst (v := 1) dL_law_605 (by decide) ?_
  refine rl_iadd dL_law_606 ?_
  refine rq_ti (y := nI (6 * n + 1)) (nI_add (6 * n) 1).symm ?_
  refine rl_ld dL_law_607 (vp_in_nI (by omega) (by omega)) ?_
  refine rq_ti (y := xs (6 * n + 1)) (by rw [nI_clamp (by omega)]) ?_
  refine rl_call1 dL_law_608 ln_L_65 mv_X9_setting (sh_x w) (bw_kl (by decide)) (ct_X9_setting h1) (Nat.le_of_ble_eq_true rfl) (Nat.le_of_ble_eq_true rfl) (bw_kki ?_)
  refine rl_aload_n dL_law_611 rfl rfl ?_
  refine rl_aload_n dL_law_612 rfl rfl ?_
  refine rl_iload_n dL_law_613 rfl rfl ?_
  refine rl_iconst (v := 1) dL_law_614 (by decide) ?_
  refine rl_iadd dL_law_615 ?_
  refine rq_ti (y := nI (6 * n + 1)) (nI_add (6 * n) 1).symm ?_
  refine rl_ld dL_law_616 (vp_in_nI (by omega) (by omega)) ?_
  refine rq_ti (y := xs (6 * n + 1)) (by rw [nI_clamp (by omega)]) ?_
  refine rl_call1 dL_law_617 ln_L_68 mv_X10_setting (sh_m w) (bw_kl (by decide)) (ct_X10_setting h2) (Nat.le_of_ble_eq_true rfl) (Nat.le_of_ble_eq_true rfl) (bw_kki ?_)
  refine rl_eq (tgt := 1475) dL_law_620 (by decide) ?_
  refine rl_widen (cu' := cu + 3) (su' := su + 196) (by omega) (by omega) (by omega) (by omega) ?_
  exact rl_sub (rw_lc rfl (rw_lc rfl (rw_lc rfl (rw_lc rfl rw_lz)))) (k _ M2 hI2)
set_option maxRecDepth 20000 in
set_option maxHeartbeats 1000000 in
theorem li_line {Inv : Nat → Mem → Prop} (hop : Op_line Inv) {w : WE} {b L n cu su : Nat} {xs : Nat → Int32} {M : Mem} (hn : n < 512) (hL : 6 * n + 6 ≤ L) (hL2 : L ≤ 3072) (hc : cu + 3 ≤ 600000) (hs : su + 196 ≤ 7302250) (hI : Inv n M) (k : ∀ (w' : WE) (M2 : Mem), Inv (n + 1) M2 → RQ w' b L xs (cu + 3) (su + 196) 1475 [(0, .ref b), (1, .ref (bw_ad w' 0)), (2, .ref (bw_ad w' 93)), (3, .int (nI (6 * n)))] [] M2) : RQ w b L xs cu su 625 [(0, .ref b), (1, .ref (bw_ad w 0)), (2, .ref (bw_ad w 93)), (3, .int (nI (6 * n)))] [] M := by
  obtain ⟨r, M1, M2, h1, h2, hI2⟩ := hop n M (xs (6 * n + 1)) (xs (6 * n + 2)) hn hI
  refine rl_aload_n dL_law_625 rfl rfl ?_
  refine rl_aload_n dL_law_626 rfl rfl ?_
  refine rl_iload_n dL_law_627 rfl rfl ?_
  refine rl_iconst (v := 1) dL_law_628 (by decide) ?_
  refine rl_iadd dL_law_629 ?_
  refine rq_ti (y := nI (6 * n + 1)) (nI_add (6 * n) 1).symm ?_
  refine rl_ld dL_law_630 (vp_in_nI (by omega) (by omega)) ?_
  refine rq_ti (y := xs (6 * n + 1)) (by rw [nI_clamp (by omega)]) ?_
  refine rl_aload_n dL_law_631 rfl rfl ?_
  refine rl_iload_n dL_law_632 rfl rfl ?_
  refine rl_iconst (v := 2) dL_law_633 (by decide) ?_
  refine rl_iadd dL_law_634 ?_
  refine rq_ti (y := nI (6 * n + 2)) (nI_add (6 * n) 2).symm ?_
  refine rl_ld dL_law_635 (vp_in_nI (by omega) (by omega)) ?_
  refine rq_ti (y := xs (6 * n + 2)) (by rw [nI_clamp (by omega)]) ?_
  refine rl_call2 dL_law_636 ln_L_69 mv_X9_line (sh_x w) (bw_kl (by decide)) (ct_X9_line h1) (Nat.le_of_ble_eq_true rfl) (Nat.le_of_ble_eq_true rfl) (bw_kki ?_)
  refine rl_aload_n dL_law_639 rfl rfl ?_
  refine rl_aload_n dL_law_640 rfl rfl ?_
  refine rl_iload_n dL_law_641 rfl rfl ?_
  refine rl_iconst (v := 1) dL_law_642 (by decide) ?_
  refine rl_iadd dL_law_643 ?_
  refine rq_ti (y := nI (6 * n + 1)) (nI_add (6 * n) 1).symm ?_
  refine rl_ld dL_law_644 (vp_in_nI (by omega) (by omega)) ?_
  refine rq_ti (y := xs (6 * n + 1)) (by rw [nI_clamp (by omega)]) ?_
  refine rl_aload_n dL_law_645 rfl rfl ?_
  refine rl_iload_n dL_law_646 rfl rfl ?_
  refine rl_iconst (v := 2) dL_law_647 (by decide) ?_
  refine rl_iadd dL_law_648 ?_
  refine rq_ti (y := nI (6 * n + 2)) (nI_add (6 * n) 2).symm ?_
  refine rl_ld dL_law_649 (vp_in_nI (by omega) (by omega)) ?_
  refine rq_ti (y := xs (6 * n + 2)) (by rw [nI_clamp (by omega)]) ?_
  refine rl_call2 dL_law_650 ln_L_72 mv_X10_line (sh_m w) (bw_kl (by decide)) (ct_X10_line h2) (Nat.le_of_ble_eq_true rfl) (Nat.le_of_ble_eq_true rfl) (bw_kki ?_)
  refine rl_eq (tgt := 1475) dL_law_653 (by decide) ?_
  refine rl_widen (cu' := cu + 3) (su' := su + 196) (by omega) (by omega) (by omega) (by omega) ?_
  exact rl_sub (rw_lc rfl (rw_lc rfl (rw_lc rfl (rw_lc rfl rw_lz)))) (k _ M2 hI2)
set_option maxRecDepth 20000 in
set_option maxHeartbeats 1000000 in
theorem li_allow {Inv : Nat → Mem → Prop} (hop : Op_allow Inv) {w : WE} {b L n cu su : Nat} {xs : Nat → Int32} {M : Mem} (hn : n < 512) (hL : 6 * n + 6 ≤ L) (hL2 : L ≤ 3072) (hc : cu + 3 ≤ 600000) (hs : su + 196 ≤ 7302250) (hI : Inv n M) (k : ∀ (w' : WE) (M2 : Mem), Inv (n + 1) M2 → RQ w' b L xs (cu + 3) (su + 196) 1475 [(0, .ref b), (1, .ref (bw_ad w' 0)), (2, .ref (bw_ad w' 93)), (3, .int (nI (6 * n)))] [] M2) : RQ w b L xs cu su 658 [(0, .ref b), (1, .ref (bw_ad w 0)), (2, .ref (bw_ad w 93)), (3, .int (nI (6 * n)))] [] M := by
  obtain ⟨r, M1, M2, h1, h2, hI2⟩ := hop n M (xs (6 * n + 1)) hn hI
  refine rl_aload_n dL_law_658 rfl rfl ?_
  refine rl_aload_n dL_law_659 rfl rfl ?_
  refine rl_iload_n dL_law_660 rfl rfl ?_
  refine rl_iconst (v := 1) dL_law_661 (by decide) ?_
  refine rl_iadd dL_law_662 ?_
  refine rq_ti (y := nI (6 * n + 1)) (nI_add (6 * n) 1).symm ?_
  refine rl_ld dL_law_663 (vp_in_nI (by omega) (by omega)) ?_
  refine rq_ti (y := xs (6 * n + 1)) (by rw [nI_clamp (by omega)]) ?_
  refine rl_call1 dL_law_664 ln_L_73 mv_X9_allow (sh_x w) (bw_kl (by decide)) (ct_X9_allow h1) (Nat.le_of_ble_eq_true rfl) (Nat.le_of_ble_eq_true rfl) (bw_kki ?_)
  refine rl_aload_n dL_law_667 rfl rfl ?_
  refine rl_aload_n dL_law_668 rfl rfl ?_
  refine rl_iload_n dL_law_669 rfl rfl ?_
  refine rl_iconst (v := 1) dL_law_670 (by decide) ?_
  refine rl_iadd dL_law_671 ?_
  refine rq_ti (y := nI (6 * n + 1)) (nI_add (6 * n) 1).symm ?_
  refine rl_ld dL_law_672 (vp_in_nI (by omega) (by omega)) ?_
  refine rq_ti (y := xs (6 * n + 1)) (by rw [nI_clamp (by omega)]) ?_
  refine rl_call1 dL_law_673 ln_L_76 mv_X10_allow (sh_m w) (bw_kl (by decide)) (ct_X10_allow h2) (Nat.le_of_ble_eq_true rfl) (Nat.le_of_ble_eq_true rfl) (bw_kki ?_)
  refine rl_eq (tgt := 1475) dL_law_676 (by decide) ?_
  refine rl_widen (cu' := cu + 3) (su' := su + 196) (by omega) (by omega) (by omega) (by omega) ?_
  exact rl_sub (rw_lc rfl (rw_lc rfl (rw_lc rfl (rw_lc rfl rw_lz)))) (k _ M2 hI2)
set_option maxRecDepth 20000 in
set_option maxHeartbeats 1000000 in
theorem li_clear {Inv : Nat → Mem → Prop} (hop : Op_clear Inv) {w : WE} {b L n cu su : Nat} {xs : Nat → Int32} {M : Mem} (hn : n < 512) (hL : 6 * n + 6 ≤ L) (hL2 : L ≤ 3072) (hc : cu + 3 ≤ 600000) (hs : su + 196 ≤ 7302250) (hI : Inv n M) (k : ∀ (w' : WE) (M2 : Mem), Inv (n + 1) M2 → RQ w' b L xs (cu + 3) (su + 196) 1475 [(0, .ref b), (1, .ref (bw_ad w' 0)), (2, .ref (bw_ad w' 93)), (3, .int (nI (6 * n)))] [] M2) : RQ w b L xs cu su 681 [(0, .ref b), (1, .ref (bw_ad w 0)), (2, .ref (bw_ad w 93)), (3, .int (nI (6 * n)))] [] M := by
  obtain ⟨r, M1, M2, h1, h2, hI2⟩ := hop n M hn hI
  refine rl_aload_n dL_law_681 rfl rfl ?_
  refine rl_call0 dL_law_682 ln_L_77 mv_X9_clear (sh_x w) (bw_kl (by decide)) (ct_X9_clear h1) (Nat.le_of_ble_eq_true rfl) (Nat.le_of_ble_eq_true rfl) (bw_kki ?_)
  refine rl_aload_n dL_law_685 rfl rfl ?_
  refine rl_call0 dL_law_686 ln_L_81 mv_X10_clear (sh_m w) (bw_kl (by decide)) (ct_X10_clear h2) (Nat.le_of_ble_eq_true rfl) (Nat.le_of_ble_eq_true rfl) (bw_kki ?_)
  refine rl_eq (tgt := 1475) dL_law_689 (by decide) ?_
  refine rl_widen (cu' := cu + 3) (su' := su + 196) (by omega) (by omega) (by omega) (by omega) ?_
  exact rl_sub (rw_lc rfl (rw_lc rfl (rw_lc rfl (rw_lc rfl rw_lz)))) (k _ M2 hI2)
set_option maxRecDepth 20000 in
set_option maxHeartbeats 1000000 in
theorem li_cases {Inv : Nat → Mem → Prop} (hop : Op_cases Inv) {w : WE} {b L n cu su : Nat} {xs : Nat → Int32} {M : Mem} (hn : n < 512) (hL : 6 * n + 6 ≤ L) (hL2 : L ≤ 3072) (hc : cu + 3 ≤ 600000) (hs : su + 196 ≤ 7302250) (hI : Inv n M) (k : ∀ (w' : WE) (M2 : Mem), Inv (n + 1) M2 → RQ w' b L xs (cu + 3) (su + 196) 1475 [(0, .ref b), (1, .ref (bw_ad w' 0)), (2, .ref (bw_ad w' 93)), (3, .int (nI (6 * n)))] [] M2) : RQ w b L xs cu su 694 [(0, .ref b), (1, .ref (bw_ad w 0)), (2, .ref (bw_ad w 93)), (3, .int (nI (6 * n)))] [] M := by
  obtain ⟨r, M1, M2, h1, h2, hI2⟩ := hop n M (xs (6 * n + 1)) hn hI
  refine rl_aload_n dL_law_694 rfl rfl ?_
  refine rl_aload_n dL_law_695 rfl rfl ?_
  refine rl_iload_n dL_law_696 rfl rfl ?_
  refine rl_iconst (v := 1) dL_law_697 (by decide) ?_
  refine rl_iadd dL_law_698 ?_
  refine rq_ti (y := nI (6 * n + 1)) (nI_add (6 * n) 1).symm ?_
  refine rl_ld dL_law_699 (vp_in_nI (by omega) (by omega)) ?_
  refine rq_ti (y := xs (6 * n + 1)) (by rw [nI_clamp (by omega)]) ?_
  refine rl_call1 dL_law_700 ln_L_82 mv_X9_cases (sh_x w) (bw_kl (by decide)) (ct_X9_cases h1) (Nat.le_of_ble_eq_true rfl) (Nat.le_of_ble_eq_true rfl) (bw_kki ?_)
  refine rl_aload_n dL_law_703 rfl rfl ?_
  refine rl_aload_n dL_law_704 rfl rfl ?_
  refine rl_iload_n dL_law_705 rfl rfl ?_
  refine rl_iconst (v := 1) dL_law_706 (by decide) ?_
  refine rl_iadd dL_law_707 ?_
  refine rq_ti (y := nI (6 * n + 1)) (nI_add (6 * n) 1).symm ?_
  refine rl_ld dL_law_708 (vp_in_nI (by omega) (by omega)) ?_
  refine rq_ti (y := xs (6 * n + 1)) (by rw [nI_clamp (by omega)]) ?_
  refine rl_call1 dL_law_709 ln_L_85 mv_X10_cases (sh_m w) (bw_kl (by decide)) (ct_X10_cases h2) (Nat.le_of_ble_eq_true rfl) (Nat.le_of_ble_eq_true rfl) (bw_kki ?_)
  refine rl_eq (tgt := 1475) dL_law_712 (by decide) ?_
  refine rl_widen (cu' := cu + 3) (su' := su + 196) (by omega) (by omega) (by omega) (by omega) ?_
  exact rl_sub (rw_lc rfl (rw_lc rfl (rw_lc rfl (rw_lc rfl rw_lz)))) (k _ M2 hI2)
set_option maxRecDepth 20000 in
set_option maxHeartbeats 1000000 in
theorem li_few {Inv : Nat → Mem → Prop} (hop : Op_few Inv) {w : WE} {b L n cu su : Nat} {xs : Nat → Int32} {M : Mem} (hn : n < 512) (hL : 6 * n + 6 ≤ L) (hL2 : L ≤ 3072) (hc : cu + 3 ≤ 600000) (hs : su + 196 ≤ 7302250) (hI : Inv n M) (k : ∀ (w' : WE) (M2 : Mem), Inv (n + 1) M2 → RQ w' b L xs (cu + 3) (su + 196) 1475 [(0, .ref b), (1, .ref (bw_ad w' 0)), (2, .ref (bw_ad w' 93)), (3, .int (nI (6 * n)))] [] M2) : RQ w b L xs cu su 717 [(0, .ref b), (1, .ref (bw_ad w 0)), (2, .ref (bw_ad w 93)), (3, .int (nI (6 * n)))] [] M := by
  obtain ⟨r, M1, M2, h1, h2, hI2⟩ := hop n M (xs (6 * n + 1)) (xs (6 * n + 2)) hn hI
  refine rl_aload_n dL_law_717 rfl rfl ?_
  refine rl_aload_n dL_law_718 rfl rfl ?_
  refine rl_iload_n dL_law_719 rfl rfl ?_
  refine rl_iconst (v := 1) dL_law_720 (by decide) ?_
  refine rl_iadd dL_law_721 ?_
  refine rq_ti (y := nI (6 * n + 1)) (nI_add (6 * n) 1).symm ?_
  refine rl_ld dL_law_722 (vp_in_nI (by omega) (by omega)) ?_
  refine rq_ti (y := xs (6 * n + 1)) (by rw [nI_clamp (by omega)]) ?_
  refine rl_aload_n dL_law_723 rfl rfl ?_
  refine rl_iload_n dL_law_724 rfl rfl ?_
  refine rl_iconst (v := 2) dL_law_725 (by decide) ?_
  refine rl_iadd dL_law_726 ?_
  refine rq_ti (y := nI (6 * n + 2)) (nI_add (6 * n) 2).symm ?_
  refine rl_ld dL_law_727 (vp_in_nI (by omega) (by omega)) ?_
  refine rq_ti (y := xs (6 * n + 2)) (by rw [nI_clamp (by omega)]) ?_
  refine rl_call2 dL_law_728 ln_L_86 mv_X9_few (sh_x w) (bw_kl (by decide)) (ct_X9_few h1) (Nat.le_of_ble_eq_true rfl) (Nat.le_of_ble_eq_true rfl) (bw_kki ?_)
  refine rl_aload_n dL_law_731 rfl rfl ?_
  refine rl_aload_n dL_law_732 rfl rfl ?_
  refine rl_iload_n dL_law_733 rfl rfl ?_
  refine rl_iconst (v := 1) dL_law_734 (by decide) ?_
  refine rl_iadd dL_law_735 ?_
  refine rq_ti (y := nI (6 * n + 1)) (nI_add (6 * n) 1).symm ?_
  refine rl_ld dL_law_736 (vp_in_nI (by omega) (by omega)) ?_
  refine rq_ti (y := xs (6 * n + 1)) (by rw [nI_clamp (by omega)]) ?_
  refine rl_aload_n dL_law_737 rfl rfl ?_
  refine rl_iload_n dL_law_738 rfl rfl ?_
  refine rl_iconst (v := 2) dL_law_739 (by decide) ?_
  refine rl_iadd dL_law_740 ?_
  refine rq_ti (y := nI (6 * n + 2)) (nI_add (6 * n) 2).symm ?_
  refine rl_ld dL_law_741 (vp_in_nI (by omega) (by omega)) ?_
  refine rq_ti (y := xs (6 * n + 2)) (by rw [nI_clamp (by omega)]) ?_
  refine rl_call2 dL_law_742 ln_L_89 mv_X10_few (sh_m w) (bw_kl (by decide)) (ct_X10_few h2) (Nat.le_of_ble_eq_true rfl) (Nat.le_of_ble_eq_true rfl) (bw_kki ?_)
  refine rl_eq (tgt := 1475) dL_law_745 (by decide) ?_
  refine rl_widen (cu' := cu + 3) (su' := su + 196) (by omega) (by omega) (by omega) (by omega) ?_
  exact rl_sub (rw_lc rfl (rw_lc rfl (rw_lc rfl (rw_lc rfl rw_lz)))) (k _ M2 hI2)
set_option maxRecDepth 20000 in
set_option maxHeartbeats 1000000 in
theorem li_apart {Inv : Nat → Mem → Prop} (hop : Op_apart Inv) {w : WE} {b L n cu su : Nat} {xs : Nat → Int32} {M : Mem} (hn : n < 512) (hL : 6 * n + 6 ≤ L) (hL2 : L ≤ 3072) (hc : cu + 3 ≤ 600000) (hs : su + 196 ≤ 7302250) (hI : Inv n M) (k : ∀ (w' : WE) (M2 : Mem), Inv (n + 1) M2 → RQ w' b L xs (cu + 3) (su + 196) 1475 [(0, .ref b), (1, .ref (bw_ad w' 0)), (2, .ref (bw_ad w' 93)), (3, .int (nI (6 * n)))] [] M2) : RQ w b L xs cu su 750 [(0, .ref b), (1, .ref (bw_ad w 0)), (2, .ref (bw_ad w 93)), (3, .int (nI (6 * n)))] [] M := by
  obtain ⟨r, M1, M2, h1, h2, hI2⟩ := hop n M (xs (6 * n + 1)) hn hI
  refine rl_aload_n dL_law_750 rfl rfl ?_
  refine rl_aload_n dL_law_751 rfl rfl ?_
  refine rl_iload_n dL_law_752 rfl rfl ?_
  refine rl_iconst (v := 1) dL_law_753 (by decide) ?_
  refine rl_iadd dL_law_754 ?_
  refine rq_ti (y := nI (6 * n + 1)) (nI_add (6 * n) 1).symm ?_
  refine rl_ld dL_law_755 (vp_in_nI (by omega) (by omega)) ?_
  refine rq_ti (y := xs (6 * n + 1)) (by rw [nI_clamp (by omega)]) ?_
  refine rl_call1 dL_law_756 ln_L_90 mv_X9_apart (sh_x w) (bw_kl (by decide)) (ct_X9_apart h1) (Nat.le_of_ble_eq_true rfl) (Nat.le_of_ble_eq_true rfl) (bw_kki ?_)
  refine rl_aload_n dL_law_759 rfl rfl ?_
  refine rl_aload_n dL_law_760 rfl rfl ?_
  refine rl_iload_n dL_law_761 rfl rfl ?_
  refine rl_iconst (v := 1) dL_law_762 (by decide) ?_
  refine rl_iadd dL_law_763 ?_
  refine rq_ti (y := nI (6 * n + 1)) (nI_add (6 * n) 1).symm ?_
  refine rl_ld dL_law_764 (vp_in_nI (by omega) (by omega)) ?_
  refine rq_ti (y := xs (6 * n + 1)) (by rw [nI_clamp (by omega)]) ?_
  refine rl_call1 dL_law_765 ln_L_93 mv_X10_apart (sh_m w) (bw_kl (by decide)) (ct_X10_apart h2) (Nat.le_of_ble_eq_true rfl) (Nat.le_of_ble_eq_true rfl) (bw_kki ?_)
  refine rl_eq (tgt := 1475) dL_law_768 (by decide) ?_
  refine rl_widen (cu' := cu + 3) (su' := su + 196) (by omega) (by omega) (by omega) (by omega) ?_
  exact rl_sub (rw_lc rfl (rw_lc rfl (rw_lc rfl (rw_lc rfl rw_lz)))) (k _ M2 hI2)
set_option maxRecDepth 20000 in
set_option maxHeartbeats 1000000 in
theorem li_edge {Inv : Nat → Mem → Prop} (hop : Op_edge Inv) {w : WE} {b L n cu su : Nat} {xs : Nat → Int32} {M : Mem} (hn : n < 512) (hL : 6 * n + 6 ≤ L) (hL2 : L ≤ 3072) (hc : cu + 3 ≤ 600000) (hs : su + 196 ≤ 7302250) (hI : Inv n M) (k : ∀ (w' : WE) (M2 : Mem), Inv (n + 1) M2 → RQ w' b L xs (cu + 3) (su + 196) 1475 [(0, .ref b), (1, .ref (bw_ad w' 0)), (2, .ref (bw_ad w' 93)), (3, .int (nI (6 * n)))] [] M2) : RQ w b L xs cu su 773 [(0, .ref b), (1, .ref (bw_ad w 0)), (2, .ref (bw_ad w 93)), (3, .int (nI (6 * n)))] [] M := by
  obtain ⟨r, M1, M2, h1, h2, hI2⟩ := hop n M hn hI
  refine rl_aload_n dL_law_773 rfl rfl ?_
  refine rl_call0 dL_law_774 ln_L_94 mv_X9_edge (sh_x w) (bw_kl (by decide)) (ct_X9_edge h1) (Nat.le_of_ble_eq_true rfl) (Nat.le_of_ble_eq_true rfl) (bw_kki ?_)
  refine rl_aload_n dL_law_777 rfl rfl ?_
  refine rl_call0 dL_law_778 ln_L_97 mv_X10_edge (sh_m w) (bw_kl (by decide)) (ct_X10_edge h2) (Nat.le_of_ble_eq_true rfl) (Nat.le_of_ble_eq_true rfl) (bw_kki ?_)
  refine rl_eq (tgt := 1475) dL_law_781 (by decide) ?_
  refine rl_widen (cu' := cu + 3) (su' := su + 196) (by omega) (by omega) (by omega) (by omega) ?_
  exact rl_sub (rw_lc rfl (rw_lc rfl (rw_lc rfl (rw_lc rfl rw_lz)))) (k _ M2 hI2)
set_option maxRecDepth 20000 in
set_option maxHeartbeats 1000000 in
theorem li_feed {Inv : Nat → Mem → Prop} (hop : Op_feed Inv) {w : WE} {b L n cu su : Nat} {xs : Nat → Int32} {M : Mem} (hn : n < 512) (hL : 6 * n + 6 ≤ L) (hL2 : L ≤ 3072) (hc : cu + 3 ≤ 600000) (hs : su + 196 ≤ 7302250) (hI : Inv n M) (k : ∀ (w' : WE) (M2 : Mem), Inv (n + 1) M2 → RQ w' b L xs (cu + 3) (su + 196) 1475 [(0, .ref b), (1, .ref (bw_ad w' 0)), (2, .ref (bw_ad w' 93)), (3, .int (nI (6 * n)))] [] M2) : RQ w b L xs cu su 786 [(0, .ref b), (1, .ref (bw_ad w 0)), (2, .ref (bw_ad w 93)), (3, .int (nI (6 * n)))] [] M := by
  obtain ⟨r, M1, M2, h1, h2, hI2⟩ := hop n M (xs (6 * n + 1)) (xs (6 * n + 2)) (xs (6 * n + 3)) hn hI
  refine rl_aload_n dL_law_786 rfl rfl ?_
  refine rl_aload_n dL_law_787 rfl rfl ?_
  refine rl_iload_n dL_law_788 rfl rfl ?_
  refine rl_iconst (v := 1) dL_law_789 (by decide) ?_
  refine rl_iadd dL_law_790 ?_
  refine rq_ti (y := nI (6 * n + 1)) (nI_add (6 * n) 1).symm ?_
  refine rl_ld dL_law_791 (vp_in_nI (by omega) (by omega)) ?_
  refine rq_ti (y := xs (6 * n + 1)) (by rw [nI_clamp (by omega)]) ?_
  refine rl_aload_n dL_law_792 rfl rfl ?_
  refine rl_iload_n dL_law_793 rfl rfl ?_
  refine rl_iconst (v := 2) dL_law_794 (by decide) ?_
  refine rl_iadd dL_law_795 ?_
  refine rq_ti (y := nI (6 * n + 2)) (nI_add (6 * n) 2).symm ?_
  refine rl_ld dL_law_796 (vp_in_nI (by omega) (by omega)) ?_
  refine rq_ti (y := xs (6 * n + 2)) (by rw [nI_clamp (by omega)]) ?_
  refine rl_aload_n dL_law_797 rfl rfl ?_
  refine rl_iload_n dL_law_798 rfl rfl ?_
  refine rl_iconst (v := 3) dL_law_799 (by decide) ?_
  refine rl_iadd dL_law_800 ?_
  refine rq_ti (y := nI (6 * n + 3)) (nI_add (6 * n) 3).symm ?_
  refine rl_ld dL_law_801 (vp_in_nI (by omega) (by omega)) ?_
  refine rq_ti (y := xs (6 * n + 3)) (by rw [nI_clamp (by omega)]) ?_
  refine rl_call3 dL_law_802 ln_L_98 mv_X9_feed (sh_x w) (bw_kl (by decide)) (ct_X9_feed h1) (Nat.le_of_ble_eq_true rfl) (Nat.le_of_ble_eq_true rfl) (bw_kki ?_)
  refine rl_aload_n dL_law_805 rfl rfl ?_
  refine rl_aload_n dL_law_806 rfl rfl ?_
  refine rl_iload_n dL_law_807 rfl rfl ?_
  refine rl_iconst (v := 1) dL_law_808 (by decide) ?_
  refine rl_iadd dL_law_809 ?_
  refine rq_ti (y := nI (6 * n + 1)) (nI_add (6 * n) 1).symm ?_
  refine rl_ld dL_law_810 (vp_in_nI (by omega) (by omega)) ?_
  refine rq_ti (y := xs (6 * n + 1)) (by rw [nI_clamp (by omega)]) ?_
  refine rl_aload_n dL_law_811 rfl rfl ?_
  refine rl_iload_n dL_law_812 rfl rfl ?_
  refine rl_iconst (v := 2) dL_law_813 (by decide) ?_
  refine rl_iadd dL_law_814 ?_
  refine rq_ti (y := nI (6 * n + 2)) (nI_add (6 * n) 2).symm ?_
  refine rl_ld dL_law_815 (vp_in_nI (by omega) (by omega)) ?_
  refine rq_ti (y := xs (6 * n + 2)) (by rw [nI_clamp (by omega)]) ?_
  refine rl_aload_n dL_law_816 rfl rfl ?_
  refine rl_iload_n dL_law_817 rfl rfl ?_
  refine rl_iconst (v := 3) dL_law_818 (by decide) ?_
  refine rl_iadd dL_law_819 ?_
  refine rq_ti (y := nI (6 * n + 3)) (nI_add (6 * n) 3).symm ?_
  refine rl_ld dL_law_820 (vp_in_nI (by omega) (by omega)) ?_
  refine rq_ti (y := xs (6 * n + 3)) (by rw [nI_clamp (by omega)]) ?_
  refine rl_call3 dL_law_821 ln_L_101 mv_X10_feed (sh_m w) (bw_kl (by decide)) (ct_X10_feed h2) (Nat.le_of_ble_eq_true rfl) (Nat.le_of_ble_eq_true rfl) (bw_kki ?_)
  refine rl_eq (tgt := 1475) dL_law_824 (by decide) ?_
  refine rl_widen (cu' := cu + 3) (su' := su + 196) (by omega) (by omega) (by omega) (by omega) ?_
  exact rl_sub (rw_lc rfl (rw_lc rfl (rw_lc rfl (rw_lc rfl rw_lz)))) (k _ M2 hI2)
set_option maxRecDepth 20000 in
set_option maxHeartbeats 1000000 in
theorem li_trim {Inv : Nat → Mem → Prop} (hop : Op_trim Inv) {w : WE} {b L n cu su : Nat} {xs : Nat → Int32} {M : Mem} (hn : n < 512) (hL : 6 * n + 6 ≤ L) (hL2 : L ≤ 3072) (hc : cu + 3 ≤ 600000) (hs : su + 196 ≤ 7302250) (hI : Inv n M) (k : ∀ (w' : WE) (M2 : Mem), Inv (n + 1) M2 → RQ w' b L xs (cu + 3) (su + 196) 1475 [(0, .ref b), (1, .ref (bw_ad w' 0)), (2, .ref (bw_ad w' 93)), (3, .int (nI (6 * n)))] [] M2) : RQ w b L xs cu su 829 [(0, .ref b), (1, .ref (bw_ad w 0)), (2, .ref (bw_ad w 93)), (3, .int (nI (6 * n)))] [] M := by
  obtain ⟨r, M1, M2, h1, h2, hI2⟩ := hop n M (xs (6 * n + 1)) hn hI
  refine rl_aload_n dL_law_829 rfl rfl ?_
  refine rl_aload_n dL_law_830 rfl rfl ?_
  refine rl_iload_n dL_law_831 rfl rfl ?_
  refine rl_iconst (v := 1) dL_law_832 (by decide) ?_
  refine rl_iadd dL_law_833 ?_
  refine rq_ti (y := nI (6 * n + 1)) (nI_add (6 * n) 1).symm ?_
  refine rl_ld dL_law_834 (vp_in_nI (by omega) (by omega)) ?_
  refine rq_ti (y := xs (6 * n + 1)) (by rw [nI_clamp (by omega)]) ?_
  refine rl_call1 dL_law_835 ln_L_102 mv_X9_trim (sh_x w) (bw_kl (by decide)) (ct_X9_trim h1) (Nat.le_of_ble_eq_true rfl) (Nat.le_of_ble_eq_true rfl) (bw_kki ?_)
  refine rl_aload_n dL_law_838 rfl rfl ?_
  refine rl_aload_n dL_law_839 rfl rfl ?_
  refine rl_iload_n dL_law_840 rfl rfl ?_
  refine rl_iconst (v := 1) dL_law_841 (by decide) ?_
  refine rl_iadd dL_law_842 ?_
  refine rq_ti (y := nI (6 * n + 1)) (nI_add (6 * n) 1).symm ?_
  refine rl_ld dL_law_843 (vp_in_nI (by omega) (by omega)) ?_
  refine rq_ti (y := xs (6 * n + 1)) (by rw [nI_clamp (by omega)]) ?_
  refine rl_call1 dL_law_844 ln_L_105 mv_X10_trim (sh_m w) (bw_kl (by decide)) (ct_X10_trim h2) (Nat.le_of_ble_eq_true rfl) (Nat.le_of_ble_eq_true rfl) (bw_kki ?_)
  refine rl_eq (tgt := 1475) dL_law_847 (by decide) ?_
  refine rl_widen (cu' := cu + 3) (su' := su + 196) (by omega) (by omega) (by omega) (by omega) ?_
  exact rl_sub (rw_lc rfl (rw_lc rfl (rw_lc rfl (rw_lc rfl rw_lz)))) (k _ M2 hI2)
set_option maxRecDepth 20000 in
set_option maxHeartbeats 1000000 in
theorem li_text {Inv : Nat → Mem → Prop} (hop : Op_text Inv) {w : WE} {b L n cu su : Nat} {xs : Nat → Int32} {M : Mem} (hn : n < 512) (hL : 6 * n + 6 ≤ L) (hL2 : L ≤ 3072) (hc : cu + 3 ≤ 600000) (hs : su + 196 ≤ 7302250) (hI : Inv n M) (k : ∀ (w' : WE) (M2 : Mem), Inv (n + 1) M2 → RQ w' b L xs (cu + 3) (su + 196) 1475 [(0, .ref b), (1, .ref (bw_ad w' 0)), (2, .ref (bw_ad w' 93)), (3, .int (nI (6 * n)))] [] M2) : RQ w b L xs cu su 852 [(0, .ref b), (1, .ref (bw_ad w 0)), (2, .ref (bw_ad w 93)), (3, .int (nI (6 * n)))] [] M := by
  obtain ⟨r, M1, M2, h1, h2, hI2⟩ := hop n M hn hI
  refine rl_aload_n dL_law_852 rfl rfl ?_
  refine rl_callZ dL_law_853 ln_L_106 mv_X9_text (sh_x w) (bw_kl (by decide)) (ct_X9_text h1) (Nat.le_of_ble_eq_true rfl) (by omega) (by omega) (Nat.le_of_ble_eq_true rfl) (fun r0 H1 hz => ?_)
  obtain ⟨f, hf, rfl, hP1, hD1⟩ := hz
  refine ⟨f, M1, hP1, hD1, ?_⟩
  rw [show bw_ad w 0 = bw_ad (bw_wa w f) 0 from (hf 0 (by decide)).symm, show bw_ad w 93 = bw_ad (bw_wa w f) 93 from (hf 93 (by decide)).symm]
  have hA : ∀ j, j < 129 → bw_ad (bw_wa w f) j = bw_ad w j := hf
  generalize bw_wa w f = w at hA ⊢
  refine rl_aload_n dL_law_856 rfl rfl ?_
  refine rl_call0 dL_law_857 ln_L_109 mv_X10_text (sh_m w) (bw_kl (by decide)) (ct_X10_text h2) (Nat.le_of_ble_eq_true rfl) (Nat.le_of_ble_eq_true rfl) (bw_kki ?_)
  refine rl_eq (tgt := 1475) dL_law_860 (by decide) ?_
  refine rl_widen (cu' := cu + 3) (su' := su + 196) (by omega) (by omega) (by omega) (by omega) ?_
  exact rl_sub (rw_lc rfl (rw_lc rfl (rw_lc rfl (rw_lc rfl rw_lz)))) (k _ M2 hI2)
set_option maxRecDepth 20000 in
set_option maxHeartbeats 1000000 in
theorem li_textTold {Inv : Nat → Mem → Prop} (hop : Op_textTold Inv) {w : WE} {b L n cu su : Nat} {xs : Nat → Int32} {M : Mem} (hn : n < 512) (hL : 6 * n + 6 ≤ L) (hL2 : L ≤ 3072) (hc : cu + 3 ≤ 600000) (hs : su + 196 ≤ 7302250) (hI : Inv n M) (k : ∀ (w' : WE) (M2 : Mem), Inv (n + 1) M2 → RQ w' b L xs (cu + 3) (su + 196) 1475 [(0, .ref b), (1, .ref (bw_ad w' 0)), (2, .ref (bw_ad w' 93)), (3, .int (nI (6 * n)))] [] M2) : RQ w b L xs cu su 865 [(0, .ref b), (1, .ref (bw_ad w 0)), (2, .ref (bw_ad w 93)), (3, .int (nI (6 * n)))] [] M := by
  obtain ⟨r, M1, M2, h1, h2, hI2⟩ := hop n M (xs (6 * n + 1)) (xs (6 * n + 2)) hn hI
  obtain ⟨h1, rfl⟩ := h1
  obtain ⟨h2, rfl⟩ := h2
  refine rl_aload_n dL_law_865 rfl rfl ?_
  refine rl_aload_n dL_law_866 rfl rfl ?_
  refine rl_iload_n dL_law_867 rfl rfl ?_
  refine rl_iconst (v := 1) dL_law_868 (by decide) ?_
  refine rl_iadd dL_law_869 ?_
  refine rq_ti (y := nI (6 * n + 1)) (nI_add (6 * n) 1).symm ?_
  refine rl_ld dL_law_870 (vp_in_nI (by omega) (by omega)) ?_
  refine rq_ti (y := xs (6 * n + 1)) (by rw [nI_clamp (by omega)]) ?_
  refine rl_aload_n dL_law_871 rfl rfl ?_
  refine rl_iload_n dL_law_872 rfl rfl ?_
  refine rl_iconst (v := 2) dL_law_873 (by decide) ?_
  refine rl_iadd dL_law_874 ?_
  refine rq_ti (y := nI (6 * n + 2)) (nI_add (6 * n) 2).symm ?_
  refine rl_ld dL_law_875 (vp_in_nI (by omega) (by omega)) ?_
  refine rq_ti (y := xs (6 * n + 2)) (by rw [nI_clamp (by omega)]) ?_
  refine rl_call2 dL_law_876 ln_L_110 mv_X9_textTold (sh_x w) (bw_kl (by decide)) (ct_X9_textTold h1) (Nat.le_of_ble_eq_true rfl) (Nat.le_of_ble_eq_true rfl) (bw_kki ?_)
  refine rl_aload_n dL_law_879 rfl rfl ?_
  refine rl_aload_n dL_law_880 rfl rfl ?_
  refine rl_iload_n dL_law_881 rfl rfl ?_
  refine rl_iconst (v := 1) dL_law_882 (by decide) ?_
  refine rl_iadd dL_law_883 ?_
  refine rq_ti (y := nI (6 * n + 1)) (nI_add (6 * n) 1).symm ?_
  refine rl_ld dL_law_884 (vp_in_nI (by omega) (by omega)) ?_
  refine rq_ti (y := xs (6 * n + 1)) (by rw [nI_clamp (by omega)]) ?_
  refine rl_aload_n dL_law_885 rfl rfl ?_
  refine rl_iload_n dL_law_886 rfl rfl ?_
  refine rl_iconst (v := 2) dL_law_887 (by decide) ?_
  refine rl_iadd dL_law_888 ?_
  refine rq_ti (y := nI (6 * n + 2)) (nI_add (6 * n) 2).symm ?_
  refine rl_ld dL_law_889 (vp_in_nI (by omega) (by omega)) ?_
  refine rq_ti (y := xs (6 * n + 2)) (by rw [nI_clamp (by omega)]) ?_
  refine rl_call2 dL_law_890 ln_L_113 mv_X10_textTold (sh_m w) (bw_kl (by decide)) (ct_X10_textTold h2) (Nat.le_of_ble_eq_true rfl) (Nat.le_of_ble_eq_true rfl) (bw_kki ?_)
  refine rl_eq (tgt := 1475) dL_law_893 (by decide) ?_
  refine rl_widen (cu' := cu + 3) (su' := su + 196) (by omega) (by omega) (by omega) (by omega) ?_
  exact rl_sub (rw_lc rfl (rw_lc rfl (rw_lc rfl (rw_lc rfl rw_lz)))) (k _ M2 hI2)
set_option maxRecDepth 20000 in
set_option maxHeartbeats 1000000 in
theorem li_why {Inv : Nat → Mem → Prop} (hop : Op_why Inv) {w : WE} {b L n cu su : Nat} {xs : Nat → Int32} {M : Mem} (hn : n < 512) (hL : 6 * n + 6 ≤ L) (hL2 : L ≤ 3072) (hc : cu + 3 ≤ 600000) (hs : su + 196 ≤ 7302250) (hI : Inv n M) (k : ∀ (w' : WE) (M2 : Mem), Inv (n + 1) M2 → RQ w' b L xs (cu + 3) (su + 196) 1475 [(0, .ref b), (1, .ref (bw_ad w' 0)), (2, .ref (bw_ad w' 93)), (3, .int (nI (6 * n)))] [] M2) : RQ w b L xs cu su 898 [(0, .ref b), (1, .ref (bw_ad w 0)), (2, .ref (bw_ad w 93)), (3, .int (nI (6 * n)))] [] M := by
  obtain ⟨r, M1, M2, h1, h2, hI2⟩ := hop n M (xs (6 * n + 1)) hn hI
  obtain ⟨h1, rfl⟩ := h1
  obtain ⟨h2, rfl⟩ := h2
  refine rl_aload_n dL_law_898 rfl rfl ?_
  refine rl_aload_n dL_law_899 rfl rfl ?_
  refine rl_iload_n dL_law_900 rfl rfl ?_
  refine rl_iconst (v := 1) dL_law_901 (by decide) ?_
  refine rl_iadd dL_law_902 ?_
  refine rq_ti (y := nI (6 * n + 1)) (nI_add (6 * n) 1).symm ?_
  refine rl_ld dL_law_903 (vp_in_nI (by omega) (by omega)) ?_
  refine rq_ti (y := xs (6 * n + 1)) (by rw [nI_clamp (by omega)]) ?_
  refine rl_call1 dL_law_904 ln_L_114 mv_X9_why (sh_x w) (bw_kl (by decide)) (ct_X9_why h1) (Nat.le_of_ble_eq_true rfl) (Nat.le_of_ble_eq_true rfl) (bw_kki ?_)
  refine rl_aload_n dL_law_907 rfl rfl ?_
  refine rl_aload_n dL_law_908 rfl rfl ?_
  refine rl_iload_n dL_law_909 rfl rfl ?_
  refine rl_iconst (v := 1) dL_law_910 (by decide) ?_
  refine rl_iadd dL_law_911 ?_
  refine rq_ti (y := nI (6 * n + 1)) (nI_add (6 * n) 1).symm ?_
  refine rl_ld dL_law_912 (vp_in_nI (by omega) (by omega)) ?_
  refine rq_ti (y := xs (6 * n + 1)) (by rw [nI_clamp (by omega)]) ?_
  refine rl_call1 dL_law_913 ln_L_117 mv_X10_why (sh_m w) (bw_kl (by decide)) (ct_X10_why h2) (Nat.le_of_ble_eq_true rfl) (Nat.le_of_ble_eq_true rfl) (bw_kki ?_)
  refine rl_eq (tgt := 1475) dL_law_916 (by decide) ?_
  refine rl_widen (cu' := cu + 3) (su' := su + 196) (by omega) (by omega) (by omega) (by omega) ?_
  exact rl_sub (rw_lc rfl (rw_lc rfl (rw_lc rfl (rw_lc rfl rw_lz)))) (k _ M2 hI2)
set_option maxRecDepth 20000 in
set_option maxHeartbeats 1000000 in
theorem li_fullBy {Inv : Nat → Mem → Prop} (hop : Op_fullBy Inv) {w : WE} {b L n cu su : Nat} {xs : Nat → Int32} {M : Mem} (hn : n < 512) (hL : 6 * n + 6 ≤ L) (hL2 : L ≤ 3072) (hc : cu + 3 ≤ 600000) (hs : su + 196 ≤ 7302250) (hI : Inv n M) (k : ∀ (w' : WE) (M2 : Mem), Inv (n + 1) M2 → RQ w' b L xs (cu + 3) (su + 196) 1475 [(0, .ref b), (1, .ref (bw_ad w' 0)), (2, .ref (bw_ad w' 93)), (3, .int (nI (6 * n)))] [] M2) : RQ w b L xs cu su 921 [(0, .ref b), (1, .ref (bw_ad w 0)), (2, .ref (bw_ad w 93)), (3, .int (nI (6 * n)))] [] M := by
  obtain ⟨r, M1, M2, h1, h2, hI2⟩ := hop n M hn hI
  refine rl_aload_n dL_law_921 rfl rfl ?_
  refine rl_call0 dL_law_922 ln_L_118 mv_X9_fullBy (sh_x w) (bw_kl (by decide)) (ct_X9_fullBy h1) (Nat.le_of_ble_eq_true rfl) (Nat.le_of_ble_eq_true rfl) (bw_kki ?_)
  refine rl_aload_n dL_law_925 rfl rfl ?_
  refine rl_call0 dL_law_926 ln_L_121 mv_X10_fullBy (sh_m w) (bw_kl (by decide)) (ct_X10_fullBy h2) (Nat.le_of_ble_eq_true rfl) (Nat.le_of_ble_eq_true rfl) (bw_kki ?_)
  refine rl_eq (tgt := 1475) dL_law_929 (by decide) ?_
  refine rl_widen (cu' := cu + 3) (su' := su + 196) (by omega) (by omega) (by omega) (by omega) ?_
  exact rl_sub (rw_lc rfl (rw_lc rfl (rw_lc rfl (rw_lc rfl rw_lz)))) (k _ M2 hI2)
set_option maxRecDepth 20000 in
set_option maxHeartbeats 1000000 in
theorem li_most {Inv : Nat → Mem → Prop} (hop : Op_most Inv) {w : WE} {b L n cu su : Nat} {xs : Nat → Int32} {M : Mem} (hn : n < 512) (hL : 6 * n + 6 ≤ L) (hL2 : L ≤ 3072) (hc : cu + 3 ≤ 600000) (hs : su + 196 ≤ 7302250) (hI : Inv n M) (k : ∀ (w' : WE) (M2 : Mem), Inv (n + 1) M2 → RQ w' b L xs (cu + 3) (su + 196) 1475 [(0, .ref b), (1, .ref (bw_ad w' 0)), (2, .ref (bw_ad w' 93)), (3, .int (nI (6 * n)))] [] M2) : RQ w b L xs cu su 934 [(0, .ref b), (1, .ref (bw_ad w 0)), (2, .ref (bw_ad w 93)), (3, .int (nI (6 * n)))] [] M := by
  obtain ⟨r, M1, M2, h1, h2, hI2⟩ := hop n M (xs (6 * n + 1)) (xs (6 * n + 2)) hn hI
  refine rl_aload_n dL_law_934 rfl rfl ?_
  refine rl_aload_n dL_law_935 rfl rfl ?_
  refine rl_iload_n dL_law_936 rfl rfl ?_
  refine rl_iconst (v := 1) dL_law_937 (by decide) ?_
  refine rl_iadd dL_law_938 ?_
  refine rq_ti (y := nI (6 * n + 1)) (nI_add (6 * n) 1).symm ?_
  refine rl_ld dL_law_939 (vp_in_nI (by omega) (by omega)) ?_
  refine rq_ti (y := xs (6 * n + 1)) (by rw [nI_clamp (by omega)]) ?_
  refine rl_aload_n dL_law_940 rfl rfl ?_
  refine rl_iload_n dL_law_941 rfl rfl ?_
  refine rl_iconst (v := 2) dL_law_942 (by decide) ?_
  refine rl_iadd dL_law_943 ?_
  refine rq_ti (y := nI (6 * n + 2)) (nI_add (6 * n) 2).symm ?_
  refine rl_ld dL_law_944 (vp_in_nI (by omega) (by omega)) ?_
  refine rq_ti (y := xs (6 * n + 2)) (by rw [nI_clamp (by omega)]) ?_
  refine rl_call2 dL_law_945 ln_L_122 mv_X9_most (sh_x w) (bw_kl (by decide)) (ct_X9_most h1) (Nat.le_of_ble_eq_true rfl) (Nat.le_of_ble_eq_true rfl) (bw_kki ?_)
  refine rl_aload_n dL_law_948 rfl rfl ?_
  refine rl_aload_n dL_law_949 rfl rfl ?_
  refine rl_iload_n dL_law_950 rfl rfl ?_
  refine rl_iconst (v := 1) dL_law_951 (by decide) ?_
  refine rl_iadd dL_law_952 ?_
  refine rq_ti (y := nI (6 * n + 1)) (nI_add (6 * n) 1).symm ?_
  refine rl_ld dL_law_953 (vp_in_nI (by omega) (by omega)) ?_
  refine rq_ti (y := xs (6 * n + 1)) (by rw [nI_clamp (by omega)]) ?_
  refine rl_aload_n dL_law_954 rfl rfl ?_
  refine rl_iload_n dL_law_955 rfl rfl ?_
  refine rl_iconst (v := 2) dL_law_956 (by decide) ?_
  refine rl_iadd dL_law_957 ?_
  refine rq_ti (y := nI (6 * n + 2)) (nI_add (6 * n) 2).symm ?_
  refine rl_ld dL_law_958 (vp_in_nI (by omega) (by omega)) ?_
  refine rq_ti (y := xs (6 * n + 2)) (by rw [nI_clamp (by omega)]) ?_
  refine rl_call2 dL_law_959 ln_L_125 mv_X10_most (sh_m w) (bw_kl (by decide)) (ct_X10_most h2) (Nat.le_of_ble_eq_true rfl) (Nat.le_of_ble_eq_true rfl) (bw_kki ?_)
  refine rl_eq (tgt := 1475) dL_law_962 (by decide) ?_
  refine rl_widen (cu' := cu + 3) (su' := su + 196) (by omega) (by omega) (by omega) (by omega) ?_
  exact rl_sub (rw_lc rfl (rw_lc rfl (rw_lc rfl (rw_lc rfl rw_lz)))) (k _ M2 hI2)
set_option maxRecDepth 20000 in
set_option maxHeartbeats 1000000 in
theorem li_wall {Inv : Nat → Mem → Prop} (hop : Op_wall Inv) {w : WE} {b L n cu su : Nat} {xs : Nat → Int32} {M : Mem} (hn : n < 512) (hL : 6 * n + 6 ≤ L) (hL2 : L ≤ 3072) (hc : cu + 3 ≤ 600000) (hs : su + 196 ≤ 7302250) (hI : Inv n M) (k : ∀ (w' : WE) (M2 : Mem), Inv (n + 1) M2 → RQ w' b L xs (cu + 3) (su + 196) 1475 [(0, .ref b), (1, .ref (bw_ad w' 0)), (2, .ref (bw_ad w' 93)), (3, .int (nI (6 * n)))] [] M2) : RQ w b L xs cu su 967 [(0, .ref b), (1, .ref (bw_ad w 0)), (2, .ref (bw_ad w 93)), (3, .int (nI (6 * n)))] [] M := by
  obtain ⟨r, M1, M2, h1, h2, hI2⟩ := hop n M (xs (6 * n + 1)) (xs (6 * n + 2)) hn hI
  obtain ⟨h1, rfl⟩ := h1
  obtain ⟨h2, rfl⟩ := h2
  refine rl_aload_n dL_law_967 rfl rfl ?_
  refine rl_aload_n dL_law_968 rfl rfl ?_
  refine rl_iload_n dL_law_969 rfl rfl ?_
  refine rl_iconst (v := 1) dL_law_970 (by decide) ?_
  refine rl_iadd dL_law_971 ?_
  refine rq_ti (y := nI (6 * n + 1)) (nI_add (6 * n) 1).symm ?_
  refine rl_ld dL_law_972 (vp_in_nI (by omega) (by omega)) ?_
  refine rq_ti (y := xs (6 * n + 1)) (by rw [nI_clamp (by omega)]) ?_
  refine rl_aload_n dL_law_973 rfl rfl ?_
  refine rl_iload_n dL_law_974 rfl rfl ?_
  refine rl_iconst (v := 2) dL_law_975 (by decide) ?_
  refine rl_iadd dL_law_976 ?_
  refine rq_ti (y := nI (6 * n + 2)) (nI_add (6 * n) 2).symm ?_
  refine rl_ld dL_law_977 (vp_in_nI (by omega) (by omega)) ?_
  refine rq_ti (y := xs (6 * n + 2)) (by rw [nI_clamp (by omega)]) ?_
  refine rl_call2 dL_law_978 ln_L_126 mv_X9_wall (sh_x w) (bw_kl (by decide)) (ct_X9_wall h1) (Nat.le_of_ble_eq_true rfl) (Nat.le_of_ble_eq_true rfl) (bw_kki ?_)
  refine rl_aload_n dL_law_981 rfl rfl ?_
  refine rl_aload_n dL_law_982 rfl rfl ?_
  refine rl_iload_n dL_law_983 rfl rfl ?_
  refine rl_iconst (v := 1) dL_law_984 (by decide) ?_
  refine rl_iadd dL_law_985 ?_
  refine rq_ti (y := nI (6 * n + 1)) (nI_add (6 * n) 1).symm ?_
  refine rl_ld dL_law_986 (vp_in_nI (by omega) (by omega)) ?_
  refine rq_ti (y := xs (6 * n + 1)) (by rw [nI_clamp (by omega)]) ?_
  refine rl_aload_n dL_law_987 rfl rfl ?_
  refine rl_iload_n dL_law_988 rfl rfl ?_
  refine rl_iconst (v := 2) dL_law_989 (by decide) ?_
  refine rl_iadd dL_law_990 ?_
  refine rq_ti (y := nI (6 * n + 2)) (nI_add (6 * n) 2).symm ?_
  refine rl_ld dL_law_991 (vp_in_nI (by omega) (by omega)) ?_
  refine rq_ti (y := xs (6 * n + 2)) (by rw [nI_clamp (by omega)]) ?_
  refine rl_call2 dL_law_992 ln_L_129 mv_X10_wall (sh_m w) (bw_kl (by decide)) (ct_X10_wall h2) (Nat.le_of_ble_eq_true rfl) (Nat.le_of_ble_eq_true rfl) (bw_kki ?_)
  refine rl_eq (tgt := 1475) dL_law_995 (by decide) ?_
  refine rl_widen (cu' := cu + 3) (su' := su + 196) (by omega) (by omega) (by omega) (by omega) ?_
  exact rl_sub (rw_lc rfl (rw_lc rfl (rw_lc rfl (rw_lc rfl rw_lz)))) (k _ M2 hI2)
set_option maxRecDepth 20000 in
set_option maxHeartbeats 1000000 in
theorem li_inch {Inv : Nat → Mem → Prop} (hop : Op_inch Inv) {w : WE} {b L n cu su : Nat} {xs : Nat → Int32} {M : Mem} (hn : n < 512) (hL : 6 * n + 6 ≤ L) (hL2 : L ≤ 3072) (hc : cu + 3 ≤ 600000) (hs : su + 196 ≤ 7302250) (hI : Inv n M) (k : ∀ (w' : WE) (M2 : Mem), Inv (n + 1) M2 → RQ w' b L xs (cu + 3) (su + 196) 1475 [(0, .ref b), (1, .ref (bw_ad w' 0)), (2, .ref (bw_ad w' 93)), (3, .int (nI (6 * n)))] [] M2) : RQ w b L xs cu su 1000 [(0, .ref b), (1, .ref (bw_ad w 0)), (2, .ref (bw_ad w 93)), (3, .int (nI (6 * n)))] [] M := by
  obtain ⟨r, M1, M2, h1, h2, hI2⟩ := hop n M (xs (6 * n + 1)) hn hI
  refine rl_aload_n dL_law_1000 rfl rfl ?_
  refine rl_aload_n dL_law_1001 rfl rfl ?_
  refine rl_iload_n dL_law_1002 rfl rfl ?_
  refine rl_iconst (v := 1) dL_law_1003 (by decide) ?_
  refine rl_iadd dL_law_1004 ?_
  refine rq_ti (y := nI (6 * n + 1)) (nI_add (6 * n) 1).symm ?_
  refine rl_ld dL_law_1005 (vp_in_nI (by omega) (by omega)) ?_
  refine rq_ti (y := xs (6 * n + 1)) (by rw [nI_clamp (by omega)]) ?_
  refine rl_call1 dL_law_1006 ln_L_130 mv_X9_inch (sh_x w) (bw_kl (by decide)) (ct_X9_inch h1) (Nat.le_of_ble_eq_true rfl) (Nat.le_of_ble_eq_true rfl) (bw_kki ?_)
  refine rl_aload_n dL_law_1009 rfl rfl ?_
  refine rl_aload_n dL_law_1010 rfl rfl ?_
  refine rl_iload_n dL_law_1011 rfl rfl ?_
  refine rl_iconst (v := 1) dL_law_1012 (by decide) ?_
  refine rl_iadd dL_law_1013 ?_
  refine rq_ti (y := nI (6 * n + 1)) (nI_add (6 * n) 1).symm ?_
  refine rl_ld dL_law_1014 (vp_in_nI (by omega) (by omega)) ?_
  refine rq_ti (y := xs (6 * n + 1)) (by rw [nI_clamp (by omega)]) ?_
  refine rl_call1 dL_law_1015 ln_L_133 mv_X10_inch (sh_m w) (bw_kl (by decide)) (ct_X10_inch h2) (Nat.le_of_ble_eq_true rfl) (Nat.le_of_ble_eq_true rfl) (bw_kki ?_)
  refine rl_eq (tgt := 1475) dL_law_1018 (by decide) ?_
  refine rl_widen (cu' := cu + 3) (su' := su + 196) (by omega) (by omega) (by omega) (by omega) ?_
  exact rl_sub (rw_lc rfl (rw_lc rfl (rw_lc rfl (rw_lc rfl rw_lz)))) (k _ M2 hI2)
set_option maxRecDepth 20000 in
set_option maxHeartbeats 1000000 in
theorem li_shift {Inv : Nat → Mem → Prop} (hop : Op_shift Inv) {w : WE} {b L n cu su : Nat} {xs : Nat → Int32} {M : Mem} (hn : n < 512) (hL : 6 * n + 6 ≤ L) (hL2 : L ≤ 3072) (hc : cu + 3 ≤ 600000) (hs : su + 196 ≤ 7302250) (hI : Inv n M) (k : ∀ (w' : WE) (M2 : Mem), Inv (n + 1) M2 → RQ w' b L xs (cu + 3) (su + 196) 1475 [(0, .ref b), (1, .ref (bw_ad w' 0)), (2, .ref (bw_ad w' 93)), (3, .int (nI (6 * n)))] [] M2) : RQ w b L xs cu su 1023 [(0, .ref b), (1, .ref (bw_ad w 0)), (2, .ref (bw_ad w 93)), (3, .int (nI (6 * n)))] [] M := by
  obtain ⟨r, M1, M2, h1, h2, hI2⟩ := hop n M (xs (6 * n + 1)) (xs (6 * n + 2)) hn hI
  refine rl_aload_n dL_law_1023 rfl rfl ?_
  refine rl_aload_n dL_law_1024 rfl rfl ?_
  refine rl_iload_n dL_law_1025 rfl rfl ?_
  refine rl_iconst (v := 1) dL_law_1026 (by decide) ?_
  refine rl_iadd dL_law_1027 ?_
  refine rq_ti (y := nI (6 * n + 1)) (nI_add (6 * n) 1).symm ?_
  refine rl_ld dL_law_1028 (vp_in_nI (by omega) (by omega)) ?_
  refine rq_ti (y := xs (6 * n + 1)) (by rw [nI_clamp (by omega)]) ?_
  refine rl_aload_n dL_law_1029 rfl rfl ?_
  refine rl_iload_n dL_law_1030 rfl rfl ?_
  refine rl_iconst (v := 2) dL_law_1031 (by decide) ?_
  refine rl_iadd dL_law_1032 ?_
  refine rq_ti (y := nI (6 * n + 2)) (nI_add (6 * n) 2).symm ?_
  refine rl_ld dL_law_1033 (vp_in_nI (by omega) (by omega)) ?_
  refine rq_ti (y := xs (6 * n + 2)) (by rw [nI_clamp (by omega)]) ?_
  refine rl_call2 dL_law_1034 ln_L_134 mv_X9_shift (sh_x w) (bw_kl (by decide)) (ct_X9_shift h1) (Nat.le_of_ble_eq_true rfl) (Nat.le_of_ble_eq_true rfl) (bw_kki ?_)
  refine rl_aload_n dL_law_1037 rfl rfl ?_
  refine rl_aload_n dL_law_1038 rfl rfl ?_
  refine rl_iload_n dL_law_1039 rfl rfl ?_
  refine rl_iconst (v := 1) dL_law_1040 (by decide) ?_
  refine rl_iadd dL_law_1041 ?_
  refine rq_ti (y := nI (6 * n + 1)) (nI_add (6 * n) 1).symm ?_
  refine rl_ld dL_law_1042 (vp_in_nI (by omega) (by omega)) ?_
  refine rq_ti (y := xs (6 * n + 1)) (by rw [nI_clamp (by omega)]) ?_
  refine rl_aload_n dL_law_1043 rfl rfl ?_
  refine rl_iload_n dL_law_1044 rfl rfl ?_
  refine rl_iconst (v := 2) dL_law_1045 (by decide) ?_
  refine rl_iadd dL_law_1046 ?_
  refine rq_ti (y := nI (6 * n + 2)) (nI_add (6 * n) 2).symm ?_
  refine rl_ld dL_law_1047 (vp_in_nI (by omega) (by omega)) ?_
  refine rq_ti (y := xs (6 * n + 2)) (by rw [nI_clamp (by omega)]) ?_
  refine rl_call2 dL_law_1048 ln_L_137 mv_X10_shift (sh_m w) (bw_kl (by decide)) (ct_X10_shift h2) (Nat.le_of_ble_eq_true rfl) (Nat.le_of_ble_eq_true rfl) (bw_kki ?_)
  refine rl_eq (tgt := 1475) dL_law_1051 (by decide) ?_
  refine rl_widen (cu' := cu + 3) (su' := su + 196) (by omega) (by omega) (by omega) (by omega) ?_
  exact rl_sub (rw_lc rfl (rw_lc rfl (rw_lc rfl (rw_lc rfl rw_lz)))) (k _ M2 hI2)
set_option maxRecDepth 20000 in
set_option maxHeartbeats 1000000 in
theorem li_sheet {Inv : Nat → Mem → Prop} (hop : Op_sheet Inv) {w : WE} {b L n cu su : Nat} {xs : Nat → Int32} {M : Mem} (hn : n < 512) (hL : 6 * n + 6 ≤ L) (hL2 : L ≤ 3072) (hc : cu + 3 ≤ 600000) (hs : su + 196 ≤ 7302250) (hI : Inv n M) (k : ∀ (w' : WE) (M2 : Mem), Inv (n + 1) M2 → RQ w' b L xs (cu + 3) (su + 196) 1475 [(0, .ref b), (1, .ref (bw_ad w' 0)), (2, .ref (bw_ad w' 93)), (3, .int (nI (6 * n)))] [] M2) : RQ w b L xs cu su 1056 [(0, .ref b), (1, .ref (bw_ad w 0)), (2, .ref (bw_ad w 93)), (3, .int (nI (6 * n)))] [] M := by
  obtain ⟨r, M1, M2, h1, h2, hI2⟩ := hop n M (xs (6 * n + 1)) (xs (6 * n + 2)) (xs (6 * n + 3)) hn hI
  refine rl_aload_n dL_law_1056 rfl rfl ?_
  refine rl_aload_n dL_law_1057 rfl rfl ?_
  refine rl_iload_n dL_law_1058 rfl rfl ?_
  refine rl_iconst (v := 1) dL_law_1059 (by decide) ?_
  refine rl_iadd dL_law_1060 ?_
  refine rq_ti (y := nI (6 * n + 1)) (nI_add (6 * n) 1).symm ?_
  refine rl_ld dL_law_1061 (vp_in_nI (by omega) (by omega)) ?_
  refine rq_ti (y := xs (6 * n + 1)) (by rw [nI_clamp (by omega)]) ?_
  refine rl_aload_n dL_law_1062 rfl rfl ?_
  refine rl_iload_n dL_law_1063 rfl rfl ?_
  refine rl_iconst (v := 2) dL_law_1064 (by decide) ?_
  refine rl_iadd dL_law_1065 ?_
  refine rq_ti (y := nI (6 * n + 2)) (nI_add (6 * n) 2).symm ?_
  refine rl_ld dL_law_1066 (vp_in_nI (by omega) (by omega)) ?_
  refine rq_ti (y := xs (6 * n + 2)) (by rw [nI_clamp (by omega)]) ?_
  refine rl_aload_n dL_law_1067 rfl rfl ?_
  refine rl_iload_n dL_law_1068 rfl rfl ?_
  refine rl_iconst (v := 3) dL_law_1069 (by decide) ?_
  refine rl_iadd dL_law_1070 ?_
  refine rq_ti (y := nI (6 * n + 3)) (nI_add (6 * n) 3).symm ?_
  refine rl_ld dL_law_1071 (vp_in_nI (by omega) (by omega)) ?_
  refine rq_ti (y := xs (6 * n + 3)) (by rw [nI_clamp (by omega)]) ?_
  refine rl_call3 dL_law_1072 ln_L_138 mv_X9_sheet (sh_x w) (bw_kl (by decide)) (ct_X9_sheet h1) (Nat.le_of_ble_eq_true rfl) (Nat.le_of_ble_eq_true rfl) (bw_kki ?_)
  refine rl_aload_n dL_law_1075 rfl rfl ?_
  refine rl_aload_n dL_law_1076 rfl rfl ?_
  refine rl_iload_n dL_law_1077 rfl rfl ?_
  refine rl_iconst (v := 1) dL_law_1078 (by decide) ?_
  refine rl_iadd dL_law_1079 ?_
  refine rq_ti (y := nI (6 * n + 1)) (nI_add (6 * n) 1).symm ?_
  refine rl_ld dL_law_1080 (vp_in_nI (by omega) (by omega)) ?_
  refine rq_ti (y := xs (6 * n + 1)) (by rw [nI_clamp (by omega)]) ?_
  refine rl_aload_n dL_law_1081 rfl rfl ?_
  refine rl_iload_n dL_law_1082 rfl rfl ?_
  refine rl_iconst (v := 2) dL_law_1083 (by decide) ?_
  refine rl_iadd dL_law_1084 ?_
  refine rq_ti (y := nI (6 * n + 2)) (nI_add (6 * n) 2).symm ?_
  refine rl_ld dL_law_1085 (vp_in_nI (by omega) (by omega)) ?_
  refine rq_ti (y := xs (6 * n + 2)) (by rw [nI_clamp (by omega)]) ?_
  refine rl_aload_n dL_law_1086 rfl rfl ?_
  refine rl_iload_n dL_law_1087 rfl rfl ?_
  refine rl_iconst (v := 3) dL_law_1088 (by decide) ?_
  refine rl_iadd dL_law_1089 ?_
  refine rq_ti (y := nI (6 * n + 3)) (nI_add (6 * n) 3).symm ?_
  refine rl_ld dL_law_1090 (vp_in_nI (by omega) (by omega)) ?_
  refine rq_ti (y := xs (6 * n + 3)) (by rw [nI_clamp (by omega)]) ?_
  refine rl_call3 dL_law_1091 ln_L_141 mv_X10_sheet (sh_m w) (bw_kl (by decide)) (ct_X10_sheet h2) (Nat.le_of_ble_eq_true rfl) (Nat.le_of_ble_eq_true rfl) (bw_kki ?_)
  refine rl_eq (tgt := 1475) dL_law_1094 (by decide) ?_
  refine rl_widen (cu' := cu + 3) (su' := su + 196) (by omega) (by omega) (by omega) (by omega) ?_
  exact rl_sub (rw_lc rfl (rw_lc rfl (rw_lc rfl (rw_lc rfl rw_lz)))) (k _ M2 hI2)
set_option maxRecDepth 20000 in
set_option maxHeartbeats 1000000 in
theorem li_mark {Inv : Nat → Mem → Prop} (hop : Op_mark Inv) {w : WE} {b L n cu su : Nat} {xs : Nat → Int32} {M : Mem} (hn : n < 512) (hL : 6 * n + 6 ≤ L) (hL2 : L ≤ 3072) (hc : cu + 3 ≤ 600000) (hs : su + 196 ≤ 7302250) (hI : Inv n M) (k : ∀ (w' : WE) (M2 : Mem), Inv (n + 1) M2 → RQ w' b L xs (cu + 3) (su + 196) 1475 [(0, .ref b), (1, .ref (bw_ad w' 0)), (2, .ref (bw_ad w' 93)), (3, .int (nI (6 * n)))] [] M2) : RQ w b L xs cu su 1099 [(0, .ref b), (1, .ref (bw_ad w 0)), (2, .ref (bw_ad w 93)), (3, .int (nI (6 * n)))] [] M := by
  obtain ⟨r, M1, M2, h1, h2, hI2⟩ := hop n M (xs (6 * n + 1)) (xs (6 * n + 2)) (xs (6 * n + 3)) hn hI
  refine rl_aload_n dL_law_1099 rfl rfl ?_
  refine rl_aload_n dL_law_1100 rfl rfl ?_
  refine rl_iload_n dL_law_1101 rfl rfl ?_
  refine rl_iconst (v := 1) dL_law_1102 (by decide) ?_
  refine rl_iadd dL_law_1103 ?_
  refine rq_ti (y := nI (6 * n + 1)) (nI_add (6 * n) 1).symm ?_
  refine rl_ld dL_law_1104 (vp_in_nI (by omega) (by omega)) ?_
  refine rq_ti (y := xs (6 * n + 1)) (by rw [nI_clamp (by omega)]) ?_
  refine rl_aload_n dL_law_1105 rfl rfl ?_
  refine rl_iload_n dL_law_1106 rfl rfl ?_
  refine rl_iconst (v := 2) dL_law_1107 (by decide) ?_
  refine rl_iadd dL_law_1108 ?_
  refine rq_ti (y := nI (6 * n + 2)) (nI_add (6 * n) 2).symm ?_
  refine rl_ld dL_law_1109 (vp_in_nI (by omega) (by omega)) ?_
  refine rq_ti (y := xs (6 * n + 2)) (by rw [nI_clamp (by omega)]) ?_
  refine rl_aload_n dL_law_1110 rfl rfl ?_
  refine rl_iload_n dL_law_1111 rfl rfl ?_
  refine rl_iconst (v := 3) dL_law_1112 (by decide) ?_
  refine rl_iadd dL_law_1113 ?_
  refine rq_ti (y := nI (6 * n + 3)) (nI_add (6 * n) 3).symm ?_
  refine rl_ld dL_law_1114 (vp_in_nI (by omega) (by omega)) ?_
  refine rq_ti (y := xs (6 * n + 3)) (by rw [nI_clamp (by omega)]) ?_
  refine rl_call3 dL_law_1115 ln_L_142 mv_X9_mark (sh_x w) (bw_kl (by decide)) (ct_X9_mark h1) (Nat.le_of_ble_eq_true rfl) (Nat.le_of_ble_eq_true rfl) (bw_kki ?_)
  refine rl_aload_n dL_law_1118 rfl rfl ?_
  refine rl_aload_n dL_law_1119 rfl rfl ?_
  refine rl_iload_n dL_law_1120 rfl rfl ?_
  refine rl_iconst (v := 1) dL_law_1121 (by decide) ?_
  refine rl_iadd dL_law_1122 ?_
  refine rq_ti (y := nI (6 * n + 1)) (nI_add (6 * n) 1).symm ?_
  refine rl_ld dL_law_1123 (vp_in_nI (by omega) (by omega)) ?_
  refine rq_ti (y := xs (6 * n + 1)) (by rw [nI_clamp (by omega)]) ?_
  refine rl_aload_n dL_law_1124 rfl rfl ?_
  refine rl_iload_n dL_law_1125 rfl rfl ?_
  refine rl_iconst (v := 2) dL_law_1126 (by decide) ?_
  refine rl_iadd dL_law_1127 ?_
  refine rq_ti (y := nI (6 * n + 2)) (nI_add (6 * n) 2).symm ?_
  refine rl_ld dL_law_1128 (vp_in_nI (by omega) (by omega)) ?_
  refine rq_ti (y := xs (6 * n + 2)) (by rw [nI_clamp (by omega)]) ?_
  refine rl_aload_n dL_law_1129 rfl rfl ?_
  refine rl_iload_n dL_law_1130 rfl rfl ?_
  refine rl_iconst (v := 3) dL_law_1131 (by decide) ?_
  refine rl_iadd dL_law_1132 ?_
  refine rq_ti (y := nI (6 * n + 3)) (nI_add (6 * n) 3).symm ?_
  refine rl_ld dL_law_1133 (vp_in_nI (by omega) (by omega)) ?_
  refine rq_ti (y := xs (6 * n + 3)) (by rw [nI_clamp (by omega)]) ?_
  refine rl_call3 dL_law_1134 ln_L_145 mv_X10_mark (sh_m w) (bw_kl (by decide)) (ct_X10_mark h2) (Nat.le_of_ble_eq_true rfl) (Nat.le_of_ble_eq_true rfl) (bw_kki ?_)
  refine rl_eq (tgt := 1475) dL_law_1137 (by decide) ?_
  refine rl_widen (cu' := cu + 3) (su' := su + 196) (by omega) (by omega) (by omega) (by omega) ?_
  exact rl_sub (rw_lc rfl (rw_lc rfl (rw_lc rfl (rw_lc rfl rw_lz)))) (k _ M2 hI2)
set_option maxRecDepth 20000 in
set_option maxHeartbeats 1000000 in
theorem li_pour {Inv : Nat → Mem → Prop} (hop : Op_pour Inv) {w : WE} {b L n cu su : Nat} {xs : Nat → Int32} {M : Mem} (hn : n < 512) (hL : 6 * n + 6 ≤ L) (hL2 : L ≤ 3072) (hc : cu + 3 ≤ 600000) (hs : su + 196 ≤ 7302250) (hI : Inv n M) (k : ∀ (w' : WE) (M2 : Mem), Inv (n + 1) M2 → RQ w' b L xs (cu + 3) (su + 196) 1475 [(0, .ref b), (1, .ref (bw_ad w' 0)), (2, .ref (bw_ad w' 93)), (3, .int (nI (6 * n)))] [] M2) : RQ w b L xs cu su 1142 [(0, .ref b), (1, .ref (bw_ad w 0)), (2, .ref (bw_ad w 93)), (3, .int (nI (6 * n)))] [] M := by
  obtain ⟨r, M1, M2, h1, h2, hI2⟩ := hop n M (xs (6 * n + 1)) (xs (6 * n + 2)) hn hI
  refine rl_aload_n dL_law_1142 rfl rfl ?_
  refine rl_aload_n dL_law_1143 rfl rfl ?_
  refine rl_iload_n dL_law_1144 rfl rfl ?_
  refine rl_iconst (v := 1) dL_law_1145 (by decide) ?_
  refine rl_iadd dL_law_1146 ?_
  refine rq_ti (y := nI (6 * n + 1)) (nI_add (6 * n) 1).symm ?_
  refine rl_ld dL_law_1147 (vp_in_nI (by omega) (by omega)) ?_
  refine rq_ti (y := xs (6 * n + 1)) (by rw [nI_clamp (by omega)]) ?_
  refine rl_aload_n dL_law_1148 rfl rfl ?_
  refine rl_iload_n dL_law_1149 rfl rfl ?_
  refine rl_iconst (v := 2) dL_law_1150 (by decide) ?_
  refine rl_iadd dL_law_1151 ?_
  refine rq_ti (y := nI (6 * n + 2)) (nI_add (6 * n) 2).symm ?_
  refine rl_ld dL_law_1152 (vp_in_nI (by omega) (by omega)) ?_
  refine rq_ti (y := xs (6 * n + 2)) (by rw [nI_clamp (by omega)]) ?_
  refine rl_call2 dL_law_1153 ln_L_146 mv_X9_pour (sh_x w) (bw_kl (by decide)) (ct_X9_pour h1) (Nat.le_of_ble_eq_true rfl) (Nat.le_of_ble_eq_true rfl) (bw_kki ?_)
  refine rl_aload_n dL_law_1156 rfl rfl ?_
  refine rl_aload_n dL_law_1157 rfl rfl ?_
  refine rl_iload_n dL_law_1158 rfl rfl ?_
  refine rl_iconst (v := 1) dL_law_1159 (by decide) ?_
  refine rl_iadd dL_law_1160 ?_
  refine rq_ti (y := nI (6 * n + 1)) (nI_add (6 * n) 1).symm ?_
  refine rl_ld dL_law_1161 (vp_in_nI (by omega) (by omega)) ?_
  refine rq_ti (y := xs (6 * n + 1)) (by rw [nI_clamp (by omega)]) ?_
  refine rl_aload_n dL_law_1162 rfl rfl ?_
  refine rl_iload_n dL_law_1163 rfl rfl ?_
  refine rl_iconst (v := 2) dL_law_1164 (by decide) ?_
  refine rl_iadd dL_law_1165 ?_
  refine rq_ti (y := nI (6 * n + 2)) (nI_add (6 * n) 2).symm ?_
  refine rl_ld dL_law_1166 (vp_in_nI (by omega) (by omega)) ?_
  refine rq_ti (y := xs (6 * n + 2)) (by rw [nI_clamp (by omega)]) ?_
  refine rl_call2 dL_law_1167 ln_L_149 mv_X10_pour (sh_m w) (bw_kl (by decide)) (ct_X10_pour h2) (Nat.le_of_ble_eq_true rfl) (Nat.le_of_ble_eq_true rfl) (bw_kki ?_)
  refine rl_eq (tgt := 1475) dL_law_1170 (by decide) ?_
  refine rl_widen (cu' := cu + 3) (su' := su + 196) (by omega) (by omega) (by omega) (by omega) ?_
  exact rl_sub (rw_lc rfl (rw_lc rfl (rw_lc rfl (rw_lc rfl rw_lz)))) (k _ M2 hI2)
set_option maxRecDepth 20000 in
set_option maxHeartbeats 1000000 in
theorem li_copy {Inv : Nat → Mem → Prop} (hop : Op_copy Inv) {w : WE} {b L n cu su : Nat} {xs : Nat → Int32} {M : Mem} (hn : n < 512) (hL : 6 * n + 6 ≤ L) (hL2 : L ≤ 3072) (hc : cu + 3 ≤ 600000) (hs : su + 196 ≤ 7302250) (hI : Inv n M) (k : ∀ (w' : WE) (M2 : Mem), Inv (n + 1) M2 → RQ w' b L xs (cu + 3) (su + 196) 1475 [(0, .ref b), (1, .ref (bw_ad w' 0)), (2, .ref (bw_ad w' 93)), (3, .int (nI (6 * n)))] [] M2) : RQ w b L xs cu su 1175 [(0, .ref b), (1, .ref (bw_ad w 0)), (2, .ref (bw_ad w 93)), (3, .int (nI (6 * n)))] [] M := by
  obtain ⟨r, M1, M2, h1, h2, hI2⟩ := hop n M (xs (6 * n + 1)) (xs (6 * n + 2)) (xs (6 * n + 3)) (xs (6 * n + 4)) (xs (6 * n + 5)) hn hI
  refine rl_aload_n dL_law_1175 rfl rfl ?_
  refine rl_aload_n dL_law_1176 rfl rfl ?_
  refine rl_iload_n dL_law_1177 rfl rfl ?_
  refine rl_iconst (v := 1) dL_law_1178 (by decide) ?_
  refine rl_iadd dL_law_1179 ?_
  refine rq_ti (y := nI (6 * n + 1)) (nI_add (6 * n) 1).symm ?_
  refine rl_ld dL_law_1180 (vp_in_nI (by omega) (by omega)) ?_
  refine rq_ti (y := xs (6 * n + 1)) (by rw [nI_clamp (by omega)]) ?_
  refine rl_aload_n dL_law_1181 rfl rfl ?_
  refine rl_iload_n dL_law_1182 rfl rfl ?_
  refine rl_iconst (v := 2) dL_law_1183 (by decide) ?_
  refine rl_iadd dL_law_1184 ?_
  refine rq_ti (y := nI (6 * n + 2)) (nI_add (6 * n) 2).symm ?_
  refine rl_ld dL_law_1185 (vp_in_nI (by omega) (by omega)) ?_
  refine rq_ti (y := xs (6 * n + 2)) (by rw [nI_clamp (by omega)]) ?_
  refine rl_aload_n dL_law_1186 rfl rfl ?_
  refine rl_iload_n dL_law_1187 rfl rfl ?_
  refine rl_iconst (v := 3) dL_law_1188 (by decide) ?_
  refine rl_iadd dL_law_1189 ?_
  refine rq_ti (y := nI (6 * n + 3)) (nI_add (6 * n) 3).symm ?_
  refine rl_ld dL_law_1190 (vp_in_nI (by omega) (by omega)) ?_
  refine rq_ti (y := xs (6 * n + 3)) (by rw [nI_clamp (by omega)]) ?_
  refine rl_aload_n dL_law_1191 rfl rfl ?_
  refine rl_iload_n dL_law_1192 rfl rfl ?_
  refine rl_iconst (v := 4) dL_law_1193 (by decide) ?_
  refine rl_iadd dL_law_1194 ?_
  refine rq_ti (y := nI (6 * n + 4)) (nI_add (6 * n) 4).symm ?_
  refine rl_ld dL_law_1195 (vp_in_nI (by omega) (by omega)) ?_
  refine rq_ti (y := xs (6 * n + 4)) (by rw [nI_clamp (by omega)]) ?_
  refine rl_aload_n dL_law_1196 rfl rfl ?_
  refine rl_iload_n dL_law_1197 rfl rfl ?_
  refine rl_iconst (v := 5) dL_law_1198 (by decide) ?_
  refine rl_iadd dL_law_1199 ?_
  refine rq_ti (y := nI (6 * n + 5)) (nI_add (6 * n) 5).symm ?_
  refine rl_ld dL_law_1200 (vp_in_nI (by omega) (by omega)) ?_
  refine rq_ti (y := xs (6 * n + 5)) (by rw [nI_clamp (by omega)]) ?_
  refine rl_call5 dL_law_1201 ln_L_150 mv_X9_copy (sh_x w) (bw_kl (by decide)) (ct_X9_copy h1) (Nat.le_of_ble_eq_true rfl) (Nat.le_of_ble_eq_true rfl) (bw_kki ?_)
  refine rl_aload_n dL_law_1204 rfl rfl ?_
  refine rl_aload_n dL_law_1205 rfl rfl ?_
  refine rl_iload_n dL_law_1206 rfl rfl ?_
  refine rl_iconst (v := 1) dL_law_1207 (by decide) ?_
  refine rl_iadd dL_law_1208 ?_
  refine rq_ti (y := nI (6 * n + 1)) (nI_add (6 * n) 1).symm ?_
  refine rl_ld dL_law_1209 (vp_in_nI (by omega) (by omega)) ?_
  refine rq_ti (y := xs (6 * n + 1)) (by rw [nI_clamp (by omega)]) ?_
  refine rl_aload_n dL_law_1210 rfl rfl ?_
  refine rl_iload_n dL_law_1211 rfl rfl ?_
  refine rl_iconst (v := 2) dL_law_1212 (by decide) ?_
  refine rl_iadd dL_law_1213 ?_
  refine rq_ti (y := nI (6 * n + 2)) (nI_add (6 * n) 2).symm ?_
  refine rl_ld dL_law_1214 (vp_in_nI (by omega) (by omega)) ?_
  refine rq_ti (y := xs (6 * n + 2)) (by rw [nI_clamp (by omega)]) ?_
  refine rl_aload_n dL_law_1215 rfl rfl ?_
  refine rl_iload_n dL_law_1216 rfl rfl ?_
  refine rl_iconst (v := 3) dL_law_1217 (by decide) ?_
  refine rl_iadd dL_law_1218 ?_
  refine rq_ti (y := nI (6 * n + 3)) (nI_add (6 * n) 3).symm ?_
  refine rl_ld dL_law_1219 (vp_in_nI (by omega) (by omega)) ?_
  refine rq_ti (y := xs (6 * n + 3)) (by rw [nI_clamp (by omega)]) ?_
  refine rl_aload_n dL_law_1220 rfl rfl ?_
  refine rl_iload_n dL_law_1221 rfl rfl ?_
  refine rl_iconst (v := 4) dL_law_1222 (by decide) ?_
  refine rl_iadd dL_law_1223 ?_
  refine rq_ti (y := nI (6 * n + 4)) (nI_add (6 * n) 4).symm ?_
  refine rl_ld dL_law_1224 (vp_in_nI (by omega) (by omega)) ?_
  refine rq_ti (y := xs (6 * n + 4)) (by rw [nI_clamp (by omega)]) ?_
  refine rl_aload_n dL_law_1225 rfl rfl ?_
  refine rl_iload_n dL_law_1226 rfl rfl ?_
  refine rl_iconst (v := 5) dL_law_1227 (by decide) ?_
  refine rl_iadd dL_law_1228 ?_
  refine rq_ti (y := nI (6 * n + 5)) (nI_add (6 * n) 5).symm ?_
  refine rl_ld dL_law_1229 (vp_in_nI (by omega) (by omega)) ?_
  refine rq_ti (y := xs (6 * n + 5)) (by rw [nI_clamp (by omega)]) ?_
  refine rl_call5 dL_law_1230 ln_L_154 mv_X10_copy (sh_m w) (bw_kl (by decide)) (ct_X10_copy h2) (Nat.le_of_ble_eq_true rfl) (Nat.le_of_ble_eq_true rfl) (bw_kki ?_)
  refine rl_eq (tgt := 1475) dL_law_1233 (by decide) ?_
  refine rl_widen (cu' := cu + 3) (su' := su + 196) (by omega) (by omega) (by omega) (by omega) ?_
  exact rl_sub (rw_lc rfl (rw_lc rfl (rw_lc rfl (rw_lc rfl rw_lz)))) (k _ M2 hI2)
set_option maxRecDepth 20000 in
set_option maxHeartbeats 1000000 in
theorem li_lay {Inv : Nat → Mem → Prop} (hop : Op_lay Inv) {w : WE} {b L n cu su : Nat} {xs : Nat → Int32} {M : Mem} (hn : n < 512) (hL : 6 * n + 6 ≤ L) (hL2 : L ≤ 3072) (hc : cu + 3 ≤ 600000) (hs : su + 196 ≤ 7302250) (hI : Inv n M) (k : ∀ (w' : WE) (M2 : Mem), Inv (n + 1) M2 → RQ w' b L xs (cu + 3) (su + 196) 1475 [(0, .ref b), (1, .ref (bw_ad w' 0)), (2, .ref (bw_ad w' 93)), (3, .int (nI (6 * n)))] [] M2) : RQ w b L xs cu su 1238 [(0, .ref b), (1, .ref (bw_ad w 0)), (2, .ref (bw_ad w 93)), (3, .int (nI (6 * n)))] [] M := by
  obtain ⟨r, M1, M2, h1, h2, hI2⟩ := hop n M (xs (6 * n + 1)) (xs (6 * n + 2)) (xs (6 * n + 3)) hn hI
  refine rl_aload_n dL_law_1238 rfl rfl ?_
  refine rl_aload_n dL_law_1239 rfl rfl ?_
  refine rl_iload_n dL_law_1240 rfl rfl ?_
  refine rl_iconst (v := 1) dL_law_1241 (by decide) ?_
  refine rl_iadd dL_law_1242 ?_
  refine rq_ti (y := nI (6 * n + 1)) (nI_add (6 * n) 1).symm ?_
  refine rl_ld dL_law_1243 (vp_in_nI (by omega) (by omega)) ?_
  refine rq_ti (y := xs (6 * n + 1)) (by rw [nI_clamp (by omega)]) ?_
  refine rl_aload_n dL_law_1244 rfl rfl ?_
  refine rl_iload_n dL_law_1245 rfl rfl ?_
  refine rl_iconst (v := 2) dL_law_1246 (by decide) ?_
  refine rl_iadd dL_law_1247 ?_
  refine rq_ti (y := nI (6 * n + 2)) (nI_add (6 * n) 2).symm ?_
  refine rl_ld dL_law_1248 (vp_in_nI (by omega) (by omega)) ?_
  refine rq_ti (y := xs (6 * n + 2)) (by rw [nI_clamp (by omega)]) ?_
  refine rl_aload_n dL_law_1249 rfl rfl ?_
  refine rl_iload_n dL_law_1250 rfl rfl ?_
  refine rl_iconst (v := 3) dL_law_1251 (by decide) ?_
  refine rl_iadd dL_law_1252 ?_
  refine rq_ti (y := nI (6 * n + 3)) (nI_add (6 * n) 3).symm ?_
  refine rl_ld dL_law_1253 (vp_in_nI (by omega) (by omega)) ?_
  refine rq_ti (y := xs (6 * n + 3)) (by rw [nI_clamp (by omega)]) ?_
  refine rl_call3 dL_law_1254 ln_L_155 mv_X9_lay (sh_x w) (bw_kl (by decide)) (ct_X9_lay h1) (Nat.le_of_ble_eq_true rfl) (Nat.le_of_ble_eq_true rfl) (bw_kki ?_)
  refine rl_aload_n dL_law_1257 rfl rfl ?_
  refine rl_aload_n dL_law_1258 rfl rfl ?_
  refine rl_iload_n dL_law_1259 rfl rfl ?_
  refine rl_iconst (v := 1) dL_law_1260 (by decide) ?_
  refine rl_iadd dL_law_1261 ?_
  refine rq_ti (y := nI (6 * n + 1)) (nI_add (6 * n) 1).symm ?_
  refine rl_ld dL_law_1262 (vp_in_nI (by omega) (by omega)) ?_
  refine rq_ti (y := xs (6 * n + 1)) (by rw [nI_clamp (by omega)]) ?_
  refine rl_aload_n dL_law_1263 rfl rfl ?_
  refine rl_iload_n dL_law_1264 rfl rfl ?_
  refine rl_iconst (v := 2) dL_law_1265 (by decide) ?_
  refine rl_iadd dL_law_1266 ?_
  refine rq_ti (y := nI (6 * n + 2)) (nI_add (6 * n) 2).symm ?_
  refine rl_ld dL_law_1267 (vp_in_nI (by omega) (by omega)) ?_
  refine rq_ti (y := xs (6 * n + 2)) (by rw [nI_clamp (by omega)]) ?_
  refine rl_aload_n dL_law_1268 rfl rfl ?_
  refine rl_iload_n dL_law_1269 rfl rfl ?_
  refine rl_iconst (v := 3) dL_law_1270 (by decide) ?_
  refine rl_iadd dL_law_1271 ?_
  refine rq_ti (y := nI (6 * n + 3)) (nI_add (6 * n) 3).symm ?_
  refine rl_ld dL_law_1272 (vp_in_nI (by omega) (by omega)) ?_
  refine rq_ti (y := xs (6 * n + 3)) (by rw [nI_clamp (by omega)]) ?_
  refine rl_call3 dL_law_1273 ln_L_158 mv_X10_lay (sh_m w) (bw_kl (by decide)) (ct_X10_lay h2) (Nat.le_of_ble_eq_true rfl) (Nat.le_of_ble_eq_true rfl) (bw_kki ?_)
  refine rl_eq (tgt := 1475) dL_law_1276 (by decide) ?_
  refine rl_widen (cu' := cu + 3) (su' := su + 196) (by omega) (by omega) (by omega) (by omega) ?_
  exact rl_sub (rw_lc rfl (rw_lc rfl (rw_lc rfl (rw_lc rfl rw_lz)))) (k _ M2 hI2)
set_option maxRecDepth 20000 in
set_option maxHeartbeats 1000000 in
theorem li_ask {Inv : Nat → Mem → Prop} (hop : Op_ask Inv) {w : WE} {b L n cu su : Nat} {xs : Nat → Int32} {M : Mem} (hn : n < 512) (hL : 6 * n + 6 ≤ L) (hL2 : L ≤ 3072) (hc : cu + 3 ≤ 600000) (hs : su + 196 ≤ 7302250) (hI : Inv n M) (k : ∀ (w' : WE) (M2 : Mem), Inv (n + 1) M2 → RQ w' b L xs (cu + 3) (su + 196) 1475 [(0, .ref b), (1, .ref (bw_ad w' 0)), (2, .ref (bw_ad w' 93)), (3, .int (nI (6 * n)))] [] M2) : RQ w b L xs cu su 1281 [(0, .ref b), (1, .ref (bw_ad w 0)), (2, .ref (bw_ad w 93)), (3, .int (nI (6 * n)))] [] M := by
  obtain ⟨r, M1, M2, h1, h2, hI2⟩ := hop n M (xs (6 * n + 1)) (xs (6 * n + 2)) hn hI
  obtain ⟨h1, rfl⟩ := h1
  obtain ⟨h2, rfl⟩ := h2
  refine rl_aload_n dL_law_1281 rfl rfl ?_
  refine rl_aload_n dL_law_1282 rfl rfl ?_
  refine rl_iload_n dL_law_1283 rfl rfl ?_
  refine rl_iconst (v := 1) dL_law_1284 (by decide) ?_
  refine rl_iadd dL_law_1285 ?_
  refine rq_ti (y := nI (6 * n + 1)) (nI_add (6 * n) 1).symm ?_
  refine rl_ld dL_law_1286 (vp_in_nI (by omega) (by omega)) ?_
  refine rq_ti (y := xs (6 * n + 1)) (by rw [nI_clamp (by omega)]) ?_
  refine rl_aload_n dL_law_1287 rfl rfl ?_
  refine rl_iload_n dL_law_1288 rfl rfl ?_
  refine rl_iconst (v := 2) dL_law_1289 (by decide) ?_
  refine rl_iadd dL_law_1290 ?_
  refine rq_ti (y := nI (6 * n + 2)) (nI_add (6 * n) 2).symm ?_
  refine rl_ld dL_law_1291 (vp_in_nI (by omega) (by omega)) ?_
  refine rq_ti (y := xs (6 * n + 2)) (by rw [nI_clamp (by omega)]) ?_
  refine rl_call2 dL_law_1292 ln_L_159 mv_X9_ask (sh_x w) (bw_kl (by decide)) (ct_X9_ask h1) (Nat.le_of_ble_eq_true rfl) (Nat.le_of_ble_eq_true rfl) (bw_kki ?_)
  refine rl_aload_n dL_law_1295 rfl rfl ?_
  refine rl_aload_n dL_law_1296 rfl rfl ?_
  refine rl_iload_n dL_law_1297 rfl rfl ?_
  refine rl_iconst (v := 1) dL_law_1298 (by decide) ?_
  refine rl_iadd dL_law_1299 ?_
  refine rq_ti (y := nI (6 * n + 1)) (nI_add (6 * n) 1).symm ?_
  refine rl_ld dL_law_1300 (vp_in_nI (by omega) (by omega)) ?_
  refine rq_ti (y := xs (6 * n + 1)) (by rw [nI_clamp (by omega)]) ?_
  refine rl_aload_n dL_law_1301 rfl rfl ?_
  refine rl_iload_n dL_law_1302 rfl rfl ?_
  refine rl_iconst (v := 2) dL_law_1303 (by decide) ?_
  refine rl_iadd dL_law_1304 ?_
  refine rq_ti (y := nI (6 * n + 2)) (nI_add (6 * n) 2).symm ?_
  refine rl_ld dL_law_1305 (vp_in_nI (by omega) (by omega)) ?_
  refine rq_ti (y := xs (6 * n + 2)) (by rw [nI_clamp (by omega)]) ?_
  refine rl_call2 dL_law_1306 ln_L_162 mv_X10_ask (sh_m w) (bw_kl (by decide)) (ct_X10_ask h2) (Nat.le_of_ble_eq_true rfl) (Nat.le_of_ble_eq_true rfl) (bw_kki ?_)
  refine rl_eq (tgt := 1475) dL_law_1309 (by decide) ?_
  refine rl_widen (cu' := cu + 3) (su' := su + 196) (by omega) (by omega) (by omega) (by omega) ?_
  exact rl_sub (rw_lc rfl (rw_lc rfl (rw_lc rfl (rw_lc rfl rw_lz)))) (k _ M2 hI2)
set_option maxRecDepth 20000 in
set_option maxHeartbeats 1000000 in
theorem li_item {Inv : Nat → Mem → Prop} (hop : Op_item Inv) {w : WE} {b L n cu su : Nat} {xs : Nat → Int32} {M : Mem} (hn : n < 512) (hL : 6 * n + 6 ≤ L) (hL2 : L ≤ 3072) (hc : cu + 3 ≤ 600000) (hs : su + 196 ≤ 7302250) (hI : Inv n M) (k : ∀ (w' : WE) (M2 : Mem), Inv (n + 1) M2 → RQ w' b L xs (cu + 3) (su + 196) 1475 [(0, .ref b), (1, .ref (bw_ad w' 0)), (2, .ref (bw_ad w' 93)), (3, .int (nI (6 * n)))] [] M2) : RQ w b L xs cu su 1314 [(0, .ref b), (1, .ref (bw_ad w 0)), (2, .ref (bw_ad w 93)), (3, .int (nI (6 * n)))] [] M := by
  obtain ⟨r, M1, M2, h1, h2, hI2⟩ := hop n M (xs (6 * n + 1)) (xs (6 * n + 2)) hn hI
  obtain ⟨h1, rfl⟩ := h1
  obtain ⟨h2, rfl⟩ := h2
  refine rl_aload_n dL_law_1314 rfl rfl ?_
  refine rl_aload_n dL_law_1315 rfl rfl ?_
  refine rl_iload_n dL_law_1316 rfl rfl ?_
  refine rl_iconst (v := 1) dL_law_1317 (by decide) ?_
  refine rl_iadd dL_law_1318 ?_
  refine rq_ti (y := nI (6 * n + 1)) (nI_add (6 * n) 1).symm ?_
  refine rl_ld dL_law_1319 (vp_in_nI (by omega) (by omega)) ?_
  refine rq_ti (y := xs (6 * n + 1)) (by rw [nI_clamp (by omega)]) ?_
  refine rl_aload_n dL_law_1320 rfl rfl ?_
  refine rl_iload_n dL_law_1321 rfl rfl ?_
  refine rl_iconst (v := 2) dL_law_1322 (by decide) ?_
  refine rl_iadd dL_law_1323 ?_
  refine rq_ti (y := nI (6 * n + 2)) (nI_add (6 * n) 2).symm ?_
  refine rl_ld dL_law_1324 (vp_in_nI (by omega) (by omega)) ?_
  refine rq_ti (y := xs (6 * n + 2)) (by rw [nI_clamp (by omega)]) ?_
  refine rl_call2 dL_law_1325 ln_L_163 mv_X9_item (sh_x w) (bw_kl (by decide)) (ct_X9_item h1) (Nat.le_of_ble_eq_true rfl) (Nat.le_of_ble_eq_true rfl) (bw_kki ?_)
  refine rl_aload_n dL_law_1328 rfl rfl ?_
  refine rl_aload_n dL_law_1329 rfl rfl ?_
  refine rl_iload_n dL_law_1330 rfl rfl ?_
  refine rl_iconst (v := 1) dL_law_1331 (by decide) ?_
  refine rl_iadd dL_law_1332 ?_
  refine rq_ti (y := nI (6 * n + 1)) (nI_add (6 * n) 1).symm ?_
  refine rl_ld dL_law_1333 (vp_in_nI (by omega) (by omega)) ?_
  refine rq_ti (y := xs (6 * n + 1)) (by rw [nI_clamp (by omega)]) ?_
  refine rl_aload_n dL_law_1334 rfl rfl ?_
  refine rl_iload_n dL_law_1335 rfl rfl ?_
  refine rl_iconst (v := 2) dL_law_1336 (by decide) ?_
  refine rl_iadd dL_law_1337 ?_
  refine rq_ti (y := nI (6 * n + 2)) (nI_add (6 * n) 2).symm ?_
  refine rl_ld dL_law_1338 (vp_in_nI (by omega) (by omega)) ?_
  refine rq_ti (y := xs (6 * n + 2)) (by rw [nI_clamp (by omega)]) ?_
  refine rl_call2 dL_law_1339 ln_L_166 mv_X10_item (sh_m w) (bw_kl (by decide)) (ct_X10_item h2) (Nat.le_of_ble_eq_true rfl) (Nat.le_of_ble_eq_true rfl) (bw_kki ?_)
  refine rl_eq (tgt := 1475) dL_law_1342 (by decide) ?_
  refine rl_widen (cu' := cu + 3) (su' := su + 196) (by omega) (by omega) (by omega) (by omega) ?_
  exact rl_sub (rw_lc rfl (rw_lc rfl (rw_lc rfl (rw_lc rfl rw_lz)))) (k _ M2 hI2)
set_option maxRecDepth 20000 in
set_option maxHeartbeats 1000000 in
theorem li_rest {Inv : Nat → Mem → Prop} (hop : Op_rest Inv) {w : WE} {b L n cu su : Nat} {xs : Nat → Int32} {M : Mem} (hn : n < 512) (hL : 6 * n + 6 ≤ L) (hL2 : L ≤ 3072) (hc : cu + 3 ≤ 600000) (hs : su + 196 ≤ 7302250) (hI : Inv n M) (k : ∀ (w' : WE) (M2 : Mem), Inv (n + 1) M2 → RQ w' b L xs (cu + 3) (su + 196) 1475 [(0, .ref b), (1, .ref (bw_ad w' 0)), (2, .ref (bw_ad w' 93)), (3, .int (nI (6 * n)))] [] M2) : RQ w b L xs cu su 1347 [(0, .ref b), (1, .ref (bw_ad w 0)), (2, .ref (bw_ad w 93)), (3, .int (nI (6 * n)))] [] M := by
  obtain ⟨r, M1, M2, h1, h2, hI2⟩ := hop n M (xs (6 * n + 1)) (xs (6 * n + 2)) hn hI
  obtain ⟨h1, rfl⟩ := h1
  obtain ⟨h2, rfl⟩ := h2
  refine rl_aload_n dL_law_1347 rfl rfl ?_
  refine rl_aload_n dL_law_1348 rfl rfl ?_
  refine rl_iload_n dL_law_1349 rfl rfl ?_
  refine rl_iconst (v := 1) dL_law_1350 (by decide) ?_
  refine rl_iadd dL_law_1351 ?_
  refine rq_ti (y := nI (6 * n + 1)) (nI_add (6 * n) 1).symm ?_
  refine rl_ld dL_law_1352 (vp_in_nI (by omega) (by omega)) ?_
  refine rq_ti (y := xs (6 * n + 1)) (by rw [nI_clamp (by omega)]) ?_
  refine rl_aload_n dL_law_1353 rfl rfl ?_
  refine rl_iload_n dL_law_1354 rfl rfl ?_
  refine rl_iconst (v := 2) dL_law_1355 (by decide) ?_
  refine rl_iadd dL_law_1356 ?_
  refine rq_ti (y := nI (6 * n + 2)) (nI_add (6 * n) 2).symm ?_
  refine rl_ld dL_law_1357 (vp_in_nI (by omega) (by omega)) ?_
  refine rq_ti (y := xs (6 * n + 2)) (by rw [nI_clamp (by omega)]) ?_
  refine rl_call2 dL_law_1358 ln_L_167 mv_X9_rest (sh_x w) (bw_kl (by decide)) (ct_X9_rest h1) (Nat.le_of_ble_eq_true rfl) (Nat.le_of_ble_eq_true rfl) (bw_kki ?_)
  refine rl_aload_n dL_law_1361 rfl rfl ?_
  refine rl_aload_n dL_law_1362 rfl rfl ?_
  refine rl_iload_n dL_law_1363 rfl rfl ?_
  refine rl_iconst (v := 1) dL_law_1364 (by decide) ?_
  refine rl_iadd dL_law_1365 ?_
  refine rq_ti (y := nI (6 * n + 1)) (nI_add (6 * n) 1).symm ?_
  refine rl_ld dL_law_1366 (vp_in_nI (by omega) (by omega)) ?_
  refine rq_ti (y := xs (6 * n + 1)) (by rw [nI_clamp (by omega)]) ?_
  refine rl_aload_n dL_law_1367 rfl rfl ?_
  refine rl_iload_n dL_law_1368 rfl rfl ?_
  refine rl_iconst (v := 2) dL_law_1369 (by decide) ?_
  refine rl_iadd dL_law_1370 ?_
  refine rq_ti (y := nI (6 * n + 2)) (nI_add (6 * n) 2).symm ?_
  refine rl_ld dL_law_1371 (vp_in_nI (by omega) (by omega)) ?_
  refine rq_ti (y := xs (6 * n + 2)) (by rw [nI_clamp (by omega)]) ?_
  refine rl_call2 dL_law_1372 ln_L_170 mv_X10_rest (sh_m w) (bw_kl (by decide)) (ct_X10_rest h2) (Nat.le_of_ble_eq_true rfl) (Nat.le_of_ble_eq_true rfl) (bw_kki ?_)
  refine rl_eq (tgt := 1475) dL_law_1375 (by decide) ?_
  refine rl_widen (cu' := cu + 3) (su' := su + 196) (by omega) (by omega) (by omega) (by omega) ?_
  exact rl_sub (rw_lc rfl (rw_lc rfl (rw_lc rfl (rw_lc rfl rw_lz)))) (k _ M2 hI2)
set_option maxRecDepth 20000 in
set_option maxHeartbeats 1000000 in
theorem li_tell {Inv : Nat → Mem → Prop} (hop : Op_tell Inv) {w : WE} {b L n cu su : Nat} {xs : Nat → Int32} {M : Mem} (hn : n < 512) (hL : 6 * n + 6 ≤ L) (hL2 : L ≤ 3072) (hc : cu + 3 ≤ 600000) (hs : su + 196 ≤ 7302250) (hI : Inv n M) (k : ∀ (w' : WE) (M2 : Mem), Inv (n + 1) M2 → RQ w' b L xs (cu + 3) (su + 196) 1475 [(0, .ref b), (1, .ref (bw_ad w' 0)), (2, .ref (bw_ad w' 93)), (3, .int (nI (6 * n)))] [] M2) : RQ w b L xs cu su 1380 [(0, .ref b), (1, .ref (bw_ad w 0)), (2, .ref (bw_ad w 93)), (3, .int (nI (6 * n)))] [] M := by
  obtain ⟨r, M1, M2, h1, h2, hI2⟩ := hop n M (xs (6 * n + 1)) hn hI
  refine rl_aload_n dL_law_1380 rfl rfl ?_
  refine rl_aload_n dL_law_1381 rfl rfl ?_
  refine rl_iload_n dL_law_1382 rfl rfl ?_
  refine rl_iconst (v := 1) dL_law_1383 (by decide) ?_
  refine rl_iadd dL_law_1384 ?_
  refine rq_ti (y := nI (6 * n + 1)) (nI_add (6 * n) 1).symm ?_
  refine rl_ld dL_law_1385 (vp_in_nI (by omega) (by omega)) ?_
  refine rq_ti (y := xs (6 * n + 1)) (by rw [nI_clamp (by omega)]) ?_
  refine rl_call1 dL_law_1386 ln_L_171 mv_X9_tell (sh_x w) (bw_kl (by decide)) (ct_X9_tell h1) (Nat.le_of_ble_eq_true rfl) (Nat.le_of_ble_eq_true rfl) (bw_kki ?_)
  refine rl_aload_n dL_law_1389 rfl rfl ?_
  refine rl_aload_n dL_law_1390 rfl rfl ?_
  refine rl_iload_n dL_law_1391 rfl rfl ?_
  refine rl_iconst (v := 1) dL_law_1392 (by decide) ?_
  refine rl_iadd dL_law_1393 ?_
  refine rq_ti (y := nI (6 * n + 1)) (nI_add (6 * n) 1).symm ?_
  refine rl_ld dL_law_1394 (vp_in_nI (by omega) (by omega)) ?_
  refine rq_ti (y := xs (6 * n + 1)) (by rw [nI_clamp (by omega)]) ?_
  refine rl_call1 dL_law_1395 ln_L_174 mv_X10_tell (sh_m w) (bw_kl (by decide)) (ct_X10_tell h2) (Nat.le_of_ble_eq_true rfl) (Nat.le_of_ble_eq_true rfl) (bw_kki ?_)
  refine rl_eq (tgt := 1475) dL_law_1398 (by decide) ?_
  refine rl_widen (cu' := cu + 3) (su' := su + 196) (by omega) (by omega) (by omega) (by omega) ?_
  exact rl_sub (rw_lc rfl (rw_lc rfl (rw_lc rfl (rw_lc rfl rw_lz)))) (k _ M2 hI2)
set_option maxRecDepth 20000 in
set_option maxHeartbeats 1000000 in
theorem li_check {Inv : Nat → Mem → Prop} (hop : Op_check Inv) {w : WE} {b L n cu su : Nat} {xs : Nat → Int32} {M : Mem} (hn : n < 512) (hL : 6 * n + 6 ≤ L) (hL2 : L ≤ 3072) (hc : cu + 3 ≤ 600000) (hs : su + 196 ≤ 7302250) (hI : Inv n M) (k : ∀ (w' : WE) (M2 : Mem), Inv (n + 1) M2 → RQ w' b L xs (cu + 3) (su + 196) 1475 [(0, .ref b), (1, .ref (bw_ad w' 0)), (2, .ref (bw_ad w' 93)), (3, .int (nI (6 * n)))] [] M2) : RQ w b L xs cu su 1403 [(0, .ref b), (1, .ref (bw_ad w 0)), (2, .ref (bw_ad w 93)), (3, .int (nI (6 * n)))] [] M := by
  obtain ⟨r, M1, M2, h1, h2, hI2⟩ := hop n M (xs (6 * n + 1)) hn hI
  refine rl_aload_n dL_law_1403 rfl rfl ?_
  refine rl_aload_n dL_law_1404 rfl rfl ?_
  refine rl_iload_n dL_law_1405 rfl rfl ?_
  refine rl_iconst (v := 1) dL_law_1406 (by decide) ?_
  refine rl_iadd dL_law_1407 ?_
  refine rq_ti (y := nI (6 * n + 1)) (nI_add (6 * n) 1).symm ?_
  refine rl_ld dL_law_1408 (vp_in_nI (by omega) (by omega)) ?_
  refine rq_ti (y := xs (6 * n + 1)) (by rw [nI_clamp (by omega)]) ?_
  refine rl_call1 dL_law_1409 ln_L_175 mv_X9_check (sh_x w) (bw_kl (by decide)) (ct_X9_check h1) (Nat.le_of_ble_eq_true rfl) (Nat.le_of_ble_eq_true rfl) (bw_kki ?_)
  refine rl_aload_n dL_law_1412 rfl rfl ?_
  refine rl_aload_n dL_law_1413 rfl rfl ?_
  refine rl_iload_n dL_law_1414 rfl rfl ?_
  refine rl_iconst (v := 1) dL_law_1415 (by decide) ?_
  refine rl_iadd dL_law_1416 ?_
  refine rq_ti (y := nI (6 * n + 1)) (nI_add (6 * n) 1).symm ?_
  refine rl_ld dL_law_1417 (vp_in_nI (by omega) (by omega)) ?_
  refine rq_ti (y := xs (6 * n + 1)) (by rw [nI_clamp (by omega)]) ?_
  refine rl_call1 dL_law_1418 ln_L_178 mv_X10_check (sh_m w) (bw_kl (by decide)) (ct_X10_check h2) (Nat.le_of_ble_eq_true rfl) (Nat.le_of_ble_eq_true rfl) (bw_kki ?_)
  refine rl_eq (tgt := 1475) dL_law_1421 (by decide) ?_
  refine rl_widen (cu' := cu + 3) (su' := su + 196) (by omega) (by omega) (by omega) (by omega) ?_
  exact rl_sub (rw_lc rfl (rw_lc rfl (rw_lc rfl (rw_lc rfl rw_lz)))) (k _ M2 hI2)
set_option maxRecDepth 20000 in
set_option maxHeartbeats 1000000 in
theorem li_keep {Inv : Nat → Mem → Prop} (hop : Op_keep Inv) {w : WE} {b L n cu su : Nat} {xs : Nat → Int32} {M : Mem} (hn : n < 512) (hL : 6 * n + 6 ≤ L) (hL2 : L ≤ 3072) (hc : cu + 3 ≤ 600000) (hs : su + 196 ≤ 7302250) (hI : Inv n M) (k : ∀ (w' : WE) (M2 : Mem), Inv (n + 1) M2 → RQ w' b L xs (cu + 3) (su + 196) 1475 [(0, .ref b), (1, .ref (bw_ad w' 0)), (2, .ref (bw_ad w' 93)), (3, .int (nI (6 * n)))] [] M2) : RQ w b L xs cu su 1426 [(0, .ref b), (1, .ref (bw_ad w 0)), (2, .ref (bw_ad w 93)), (3, .int (nI (6 * n)))] [] M := by
  obtain ⟨r, M1, M2, h1, h2, hI2⟩ := hop n M hn hI
  refine rl_aload_n dL_law_1426 rfl rfl ?_
  refine rl_call0 dL_law_1427 ln_L_179 mv_X9_keep (sh_x w) (bw_kl (by decide)) (ct_X9_keep h1) (Nat.le_of_ble_eq_true rfl) (Nat.le_of_ble_eq_true rfl) (bw_kki ?_)
  refine rl_aload_n dL_law_1430 rfl rfl ?_
  refine rl_call0 dL_law_1431 ln_L_182 mv_X10_keep (sh_m w) (bw_kl (by decide)) (ct_X10_keep h2) (Nat.le_of_ble_eq_true rfl) (Nat.le_of_ble_eq_true rfl) (bw_kki ?_)
  refine rl_eq (tgt := 1475) dL_law_1434 (by decide) ?_
  refine rl_widen (cu' := cu + 3) (su' := su + 196) (by omega) (by omega) (by omega) (by omega) ?_
  exact rl_sub (rw_lc rfl (rw_lc rfl (rw_lc rfl (rw_lc rfl rw_lz)))) (k _ M2 hI2)
set_option maxRecDepth 20000 in
set_option maxHeartbeats 1000000 in
theorem li_back {Inv : Nat → Mem → Prop} (hop : Op_back Inv) {w : WE} {b L n cu su : Nat} {xs : Nat → Int32} {M : Mem} (hn : n < 512) (hL : 6 * n + 6 ≤ L) (hL2 : L ≤ 3072) (hc : cu + 3 ≤ 600000) (hs : su + 196 ≤ 7302250) (hI : Inv n M) (k : ∀ (w' : WE) (M2 : Mem), Inv (n + 1) M2 → RQ w' b L xs (cu + 3) (su + 196) 1475 [(0, .ref b), (1, .ref (bw_ad w' 0)), (2, .ref (bw_ad w' 93)), (3, .int (nI (6 * n)))] [] M2) : RQ w b L xs cu su 1439 [(0, .ref b), (1, .ref (bw_ad w 0)), (2, .ref (bw_ad w 93)), (3, .int (nI (6 * n)))] [] M := by
  obtain ⟨r, M1, M2, h1, h2, hI2⟩ := hop n M hn hI
  refine rl_aload_n dL_law_1439 rfl rfl ?_
  refine rl_call0 dL_law_1440 ln_L_183 mv_X9_back (sh_x w) (bw_kl (by decide)) (ct_X9_back h1) (Nat.le_of_ble_eq_true rfl) (Nat.le_of_ble_eq_true rfl) (bw_kki ?_)
  refine rl_aload_n dL_law_1443 rfl rfl ?_
  refine rl_call0 dL_law_1444 ln_L_186 mv_X10_back (sh_m w) (bw_kl (by decide)) (ct_X10_back h2) (Nat.le_of_ble_eq_true rfl) (Nat.le_of_ble_eq_true rfl) (bw_kki ?_)
  refine rl_eq (tgt := 1475) dL_law_1447 (by decide) ?_
  refine rl_widen (cu' := cu + 3) (su' := su + 196) (by omega) (by omega) (by omega) (by omega) ?_
  exact rl_sub (rw_lc rfl (rw_lc rfl (rw_lc rfl (rw_lc rfl rw_lz)))) (k _ M2 hI2)
set_option maxRecDepth 20000 in
set_option maxHeartbeats 1000000 in
theorem li_count {Inv : Nat → Mem → Prop} (hop : Op_count Inv) {w : WE} {b L n cu su : Nat} {xs : Nat → Int32} {M : Mem} (hn : n < 512) (hL : 6 * n + 6 ≤ L) (hL2 : L ≤ 3072) (hc : cu + 3 ≤ 600000) (hs : su + 196 ≤ 7302250) (hI : Inv n M) (k : ∀ (w' : WE) (M2 : Mem), Inv (n + 1) M2 → RQ w' b L xs (cu + 3) (su + 196) 1475 [(0, .ref b), (1, .ref (bw_ad w' 0)), (2, .ref (bw_ad w' 93)), (3, .int (nI (6 * n)))] [] M2) : RQ w b L xs cu su 1452 [(0, .ref b), (1, .ref (bw_ad w 0)), (2, .ref (bw_ad w 93)), (3, .int (nI (6 * n)))] [] M := by
  obtain ⟨r, M1, M2, h1, h2, hI2⟩ := hop n M (xs (6 * n + 1)) hn hI
  refine rl_aload_n dL_law_1452 rfl rfl ?_
  refine rl_aload_n dL_law_1453 rfl rfl ?_
  refine rl_iload_n dL_law_1454 rfl rfl ?_
  refine rl_iconst (v := 1) dL_law_1455 (by decide) ?_
  refine rl_iadd dL_law_1456 ?_
  refine rq_ti (y := nI (6 * n + 1)) (nI_add (6 * n) 1).symm ?_
  refine rl_ld dL_law_1457 (vp_in_nI (by omega) (by omega)) ?_
  refine rq_ti (y := xs (6 * n + 1)) (by rw [nI_clamp (by omega)]) ?_
  refine rl_call1 dL_law_1458 ln_L_187 mv_X9_count (sh_x w) (bw_kl (by decide)) (ct_X9_count h1) (Nat.le_of_ble_eq_true rfl) (Nat.le_of_ble_eq_true rfl) (bw_kki ?_)
  refine rl_aload_n dL_law_1461 rfl rfl ?_
  refine rl_aload_n dL_law_1462 rfl rfl ?_
  refine rl_iload_n dL_law_1463 rfl rfl ?_
  refine rl_iconst (v := 1) dL_law_1464 (by decide) ?_
  refine rl_iadd dL_law_1465 ?_
  refine rq_ti (y := nI (6 * n + 1)) (nI_add (6 * n) 1).symm ?_
  refine rl_ld dL_law_1466 (vp_in_nI (by omega) (by omega)) ?_
  refine rq_ti (y := xs (6 * n + 1)) (by rw [nI_clamp (by omega)]) ?_
  refine rl_call1 dL_law_1467 ln_L_190 mv_X10_count (sh_m w) (bw_kl (by decide)) (ct_X10_count h2) (Nat.le_of_ble_eq_true rfl) (Nat.le_of_ble_eq_true rfl) (bw_kki ?_)
  refine rl_eq (tgt := 1475) dL_law_1470 (by decide) ?_
  refine rl_widen (cu' := cu + 3) (su' := su + 196) (by omega) (by omega) (by omega) (by omega) ?_
  exact rl_sub (rw_lc rfl (rw_lc rfl (rw_lc rfl (rw_lc rfl rw_lz)))) (k _ M2 hI2)
def Ops (Inv : Nat → Mem → Prop) : Prop := Op_book Inv ∧ Op_bookTold Inv ∧ Op_tie Inv ∧ Op_deal Inv ∧ Op_seed Inv ∧ Op_set Inv ∧ Op_board Inv ∧ Op_told Inv ∧ Op_as Inv ∧ Op_turns Inv ∧ Op_drop Inv ∧ Op_judge Inv ∧ Op_setting Inv ∧ Op_line Inv ∧ Op_allow Inv ∧ Op_clear Inv ∧ Op_cases Inv ∧ Op_few Inv ∧ Op_apart Inv ∧ Op_edge Inv ∧ Op_feed Inv ∧ Op_trim Inv ∧ Op_text Inv ∧ Op_textTold Inv ∧ Op_why Inv ∧ Op_fullBy Inv ∧ Op_most Inv ∧ Op_wall Inv ∧ Op_inch Inv ∧ Op_shift Inv ∧ Op_sheet Inv ∧ Op_mark Inv ∧ Op_pour Inv ∧ Op_copy Inv ∧ Op_lay Inv ∧ Op_ask Inv ∧ Op_item Inv ∧ Op_rest Inv ∧ Op_tell Inv ∧ Op_check Inv ∧ Op_keep Inv ∧ Op_back Inv ∧ Op_count Inv
set_option maxRecDepth 20000 in
set_option maxHeartbeats 4000000 in
theorem law_loop {Inv : Nat → Mem → Prop} (hops : Ops Inv) (hmono : ∀ n M, Inv n M → Inv (n + 1) M) {b L : Nat} {xs : Nat → Int32} : ∀ (t n : Nat) (w : WE) (M : Mem) (cu su : Nat), 513 - n < t + 1 → n ≤ 512 → L ≤ 3072 → cu + 3 * (513 - n) ≤ 600000 → su + 196 * (513 - n) ≤ 7302250 → Inv n M → RQ w b L xs cu su 18 [(0, .ref b), (1, .ref (bw_ad w 0)), (2, .ref (bw_ad w 93)), (3, .int (nI (6 * n)))] [] M := by
  intro t
  induction t with
  | zero => intro n w M cu su hnt hn hL2 hc hs hI; exact absurd hnt (by omega)
  | succ t ih =>
    intro n w M cu su hnt hn hL2 hc hs hI
    refine rl_iload_n dL_law_18 rfl rfl ?_
    refine rl_aload_n dL_law_19 rfl rfl ?_
    refine rl_len dL_law_20 ?_
    refine rl_bipush (v := 6) dL_law_21 (by decide) ?_
    refine rl_isub dL_law_23 ?_
    have e6 : (Int32.ofNat L - 6).toInt = (L : Int) - 6 := pk_sub_toInt (a := L) (b := 6) (by omega) (by omega)
    have en : (nI (6 * n)).toInt = ((6 * n : Nat) : Int) := nI_toInt (by omega)
    refine rl_gt (tgt := 1481) dL_law_24 (by decide) (fun _ => ?_) (fun c => ?_)
    · refine rl_iconst (v := 1) dL_law_1481 (by decide) ?_
      exact rl_end dL_law_1482
    · have hL6 : 6 * n + 6 ≤ L := by
        rw [Int32.lt_iff_toInt_lt, e6, en] at c
        omega
      have hn5 : n < 512 := by omega
      have go : ∀ (w' : WE) (M2 : Mem), Inv (n + 1) M2 → RQ w' b L xs (cu + 3) (su + 196) 1475 [(0, .ref b), (1, .ref (bw_ad w' 0)), (2, .ref (bw_ad w' 93)), (3, .int (nI (6 * n)))] [] M2 := by
        intro w' M2 hI2
        refine rl_inc (v := nI (6 * (n + 1))) dL_law_1475 rfl (by rw [show Int32.ofInt 6 = nI 6 from by decide, nI_add]; rfl) (by decide) ?_
        refine rl_goto (tgt := 18) dL_law_1478 (by decide) ?_
        exact rl_sub (rw_lc rfl (rw_lc rfl (rw_lc rfl (rw_lc rfl rw_lz)))) (ih (n + 1) w' M2 (cu + 3) (su + 196) (by omega) (by omega) hL2 (by omega) (by omega) hI2)
      refine rl_aload_n dL_law_27 rfl rfl ?_
      refine rl_iload_n dL_law_28 rfl rfl ?_
      refine rl_ld dL_law_29 (vp_in_nI (by omega) (by omega)) ?_
      refine rl_bipush (v := 63) dL_law_30 (by decide) ?_
      refine rl_iand dL_law_32 ?_
      refine rl_case 0 (fun c0 => ?_) (fun c0 => ?_)
      · refine rq_ti c0.symm ?_
        refine rl_tabK (tgt := 220) dL_law_33 (by decide) (by decide) rfl (by decide) ?_
        exact rl_sub (rw_lc rfl (rw_lc rfl (rw_lc rfl (rw_lc rfl rw_lz)))) (li_book hops.1 hn5 hL6 hL2 (by omega) (by omega) hI go)
      refine rl_case 1 (fun c1 => ?_) (fun c1 => ?_)
      · refine rq_ti c1.symm ?_
        refine rl_tabK (tgt := 253) dL_law_33 (by decide) (by decide) rfl (by decide) ?_
        exact rl_sub (rw_lc rfl (rw_lc rfl (rw_lc rfl (rw_lc rfl rw_lz)))) (li_bookTold hops.2.1 hn5 hL6 hL2 (by omega) (by omega) hI go)
      refine rl_case 2 (fun c2 => ?_) (fun c2 => ?_)
      · refine rq_ti c2.symm ?_
        refine rl_tabK (tgt := 286) dL_law_33 (by decide) (by decide) rfl (by decide) ?_
        exact rl_sub (rw_lc rfl (rw_lc rfl (rw_lc rfl (rw_lc rfl rw_lz)))) (li_tie hops.2.2.1 hn5 hL6 hL2 (by omega) (by omega) hI go)
      refine rl_case 3 (fun c3 => ?_) (fun c3 => ?_)
      · refine rq_ti c3.symm ?_
        refine rl_tabK (tgt := 335) dL_law_33 (by decide) (by decide) rfl (by decide) ?_
        exact rl_sub (rw_lc rfl (rw_lc rfl (rw_lc rfl (rw_lc rfl rw_lz)))) (li_deal hops.2.2.2.1 hn5 hL6 hL2 (by omega) (by omega) hI go)
      refine rl_case 4 (fun c4 => ?_) (fun c4 => ?_)
      · refine rq_ti c4.symm ?_
        refine rl_tabK (tgt := 358) dL_law_33 (by decide) (by decide) rfl (by decide) ?_
        exact rl_sub (rw_lc rfl (rw_lc rfl (rw_lc rfl (rw_lc rfl rw_lz)))) (li_seed hops.2.2.2.2.1 hn5 hL6 hL2 (by omega) (by omega) hI go)
      refine rl_case 5 (fun c5 => ?_) (fun c5 => ?_)
      · refine rq_ti c5.symm ?_
        refine rl_tabK (tgt := 381) dL_law_33 (by decide) (by decide) rfl (by decide) ?_
        exact rl_sub (rw_lc rfl (rw_lc rfl (rw_lc rfl (rw_lc rfl rw_lz)))) (li_set hops.2.2.2.2.2.1 hn5 hL6 hL2 (by omega) (by omega) hI go)
      refine rl_case 6 (fun c6 => ?_) (fun c6 => ?_)
      · refine rq_ti c6.symm ?_
        refine rl_tabK (tgt := 414) dL_law_33 (by decide) (by decide) rfl (by decide) ?_
        exact rl_sub (rw_lc rfl (rw_lc rfl (rw_lc rfl (rw_lc rfl rw_lz)))) (li_board hops.2.2.2.2.2.2.1 hn5 hL6 hL2 (by omega) (by omega) hI go)
      refine rl_case 7 (fun c7 => ?_) (fun c7 => ?_)
      · refine rq_ti c7.symm ?_
        refine rl_tabK (tgt := 457) dL_law_33 (by decide) (by decide) rfl (by decide) ?_
        exact rl_sub (rw_lc rfl (rw_lc rfl (rw_lc rfl (rw_lc rfl rw_lz)))) (li_told hops.2.2.2.2.2.2.2.1 hn5 hL6 hL2 (by omega) (by omega) hI go)
      refine rl_case 8 (fun c8 => ?_) (fun c8 => ?_)
      · refine rq_ti c8.symm ?_
        refine rl_tabK (tgt := 490) dL_law_33 (by decide) (by decide) rfl (by decide) ?_
        exact rl_sub (rw_lc rfl (rw_lc rfl (rw_lc rfl (rw_lc rfl rw_lz)))) (li_as hops.2.2.2.2.2.2.2.2.1 hn5 hL6 hL2 (by omega) (by omega) hI go)
      refine rl_case 9 (fun c9 => ?_) (fun c9 => ?_)
      · refine rq_ti c9.symm ?_
        refine rl_tabK (tgt := 523) dL_law_33 (by decide) (by decide) rfl (by decide) ?_
        exact rl_sub (rw_lc rfl (rw_lc rfl (rw_lc rfl (rw_lc rfl rw_lz)))) (li_turns hops.2.2.2.2.2.2.2.2.2.1 hn5 hL6 hL2 (by omega) (by omega) hI go)
      refine rl_case 10 (fun c10 => ?_) (fun c10 => ?_)
      · refine rq_ti c10.symm ?_
        refine rl_tabK (tgt := 556) dL_law_33 (by decide) (by decide) rfl (by decide) ?_
        exact rl_sub (rw_lc rfl (rw_lc rfl (rw_lc rfl (rw_lc rfl rw_lz)))) (li_drop hops.2.2.2.2.2.2.2.2.2.2.1 hn5 hL6 hL2 (by omega) (by omega) hI go)
      refine rl_case 11 (fun c11 => ?_) (fun c11 => ?_)
      · refine rq_ti c11.symm ?_
        refine rl_tabK (tgt := 579) dL_law_33 (by decide) (by decide) rfl (by decide) ?_
        exact rl_sub (rw_lc rfl (rw_lc rfl (rw_lc rfl (rw_lc rfl rw_lz)))) (li_judge hops.2.2.2.2.2.2.2.2.2.2.2.1 hn5 hL6 hL2 (by omega) (by omega) hI go)
      refine rl_case 12 (fun c12 => ?_) (fun c12 => ?_)
      · refine rq_ti c12.symm ?_
        refine rl_tabK (tgt := 602) dL_law_33 (by decide) (by decide) rfl (by decide) ?_
        exact rl_sub (rw_lc rfl (rw_lc rfl (rw_lc rfl (rw_lc rfl rw_lz)))) (li_setting hops.2.2.2.2.2.2.2.2.2.2.2.2.1 hn5 hL6 hL2 (by omega) (by omega) hI go)
      refine rl_case 13 (fun c13 => ?_) (fun c13 => ?_)
      · refine rq_ti c13.symm ?_
        refine rl_tabK (tgt := 625) dL_law_33 (by decide) (by decide) rfl (by decide) ?_
        exact rl_sub (rw_lc rfl (rw_lc rfl (rw_lc rfl (rw_lc rfl rw_lz)))) (li_line hops.2.2.2.2.2.2.2.2.2.2.2.2.2.1 hn5 hL6 hL2 (by omega) (by omega) hI go)
      refine rl_case 14 (fun c14 => ?_) (fun c14 => ?_)
      · refine rq_ti c14.symm ?_
        refine rl_tabK (tgt := 658) dL_law_33 (by decide) (by decide) rfl (by decide) ?_
        exact rl_sub (rw_lc rfl (rw_lc rfl (rw_lc rfl (rw_lc rfl rw_lz)))) (li_allow hops.2.2.2.2.2.2.2.2.2.2.2.2.2.2.1 hn5 hL6 hL2 (by omega) (by omega) hI go)
      refine rl_case 15 (fun c15 => ?_) (fun c15 => ?_)
      · refine rq_ti c15.symm ?_
        refine rl_tabK (tgt := 681) dL_law_33 (by decide) (by decide) rfl (by decide) ?_
        exact rl_sub (rw_lc rfl (rw_lc rfl (rw_lc rfl (rw_lc rfl rw_lz)))) (li_clear hops.2.2.2.2.2.2.2.2.2.2.2.2.2.2.2.1 hn5 hL6 hL2 (by omega) (by omega) hI go)
      refine rl_case 16 (fun c16 => ?_) (fun c16 => ?_)
      · refine rq_ti c16.symm ?_
        refine rl_tabK (tgt := 694) dL_law_33 (by decide) (by decide) rfl (by decide) ?_
        exact rl_sub (rw_lc rfl (rw_lc rfl (rw_lc rfl (rw_lc rfl rw_lz)))) (li_cases hops.2.2.2.2.2.2.2.2.2.2.2.2.2.2.2.2.1 hn5 hL6 hL2 (by omega) (by omega) hI go)
      refine rl_case 17 (fun c17 => ?_) (fun c17 => ?_)
      · refine rq_ti c17.symm ?_
        refine rl_tabK (tgt := 717) dL_law_33 (by decide) (by decide) rfl (by decide) ?_
        exact rl_sub (rw_lc rfl (rw_lc rfl (rw_lc rfl (rw_lc rfl rw_lz)))) (li_few hops.2.2.2.2.2.2.2.2.2.2.2.2.2.2.2.2.2.1 hn5 hL6 hL2 (by omega) (by omega) hI go)
      refine rl_case 18 (fun c18 => ?_) (fun c18 => ?_)
      · refine rq_ti c18.symm ?_
        refine rl_tabK (tgt := 750) dL_law_33 (by decide) (by decide) rfl (by decide) ?_
        exact rl_sub (rw_lc rfl (rw_lc rfl (rw_lc rfl (rw_lc rfl rw_lz)))) (li_apart hops.2.2.2.2.2.2.2.2.2.2.2.2.2.2.2.2.2.2.1 hn5 hL6 hL2 (by omega) (by omega) hI go)
      refine rl_case 19 (fun c19 => ?_) (fun c19 => ?_)
      · refine rq_ti c19.symm ?_
        refine rl_tabK (tgt := 773) dL_law_33 (by decide) (by decide) rfl (by decide) ?_
        exact rl_sub (rw_lc rfl (rw_lc rfl (rw_lc rfl (rw_lc rfl rw_lz)))) (li_edge hops.2.2.2.2.2.2.2.2.2.2.2.2.2.2.2.2.2.2.2.1 hn5 hL6 hL2 (by omega) (by omega) hI go)
      refine rl_case 20 (fun c20 => ?_) (fun c20 => ?_)
      · refine rq_ti c20.symm ?_
        refine rl_tabK (tgt := 786) dL_law_33 (by decide) (by decide) rfl (by decide) ?_
        exact rl_sub (rw_lc rfl (rw_lc rfl (rw_lc rfl (rw_lc rfl rw_lz)))) (li_feed hops.2.2.2.2.2.2.2.2.2.2.2.2.2.2.2.2.2.2.2.2.1 hn5 hL6 hL2 (by omega) (by omega) hI go)
      refine rl_case 21 (fun c21 => ?_) (fun c21 => ?_)
      · refine rq_ti c21.symm ?_
        refine rl_tabK (tgt := 829) dL_law_33 (by decide) (by decide) rfl (by decide) ?_
        exact rl_sub (rw_lc rfl (rw_lc rfl (rw_lc rfl (rw_lc rfl rw_lz)))) (li_trim hops.2.2.2.2.2.2.2.2.2.2.2.2.2.2.2.2.2.2.2.2.2.1 hn5 hL6 hL2 (by omega) (by omega) hI go)
      refine rl_case 22 (fun c22 => ?_) (fun c22 => ?_)
      · refine rq_ti c22.symm ?_
        refine rl_tabK (tgt := 852) dL_law_33 (by decide) (by decide) rfl (by decide) ?_
        exact rl_sub (rw_lc rfl (rw_lc rfl (rw_lc rfl (rw_lc rfl rw_lz)))) (li_text hops.2.2.2.2.2.2.2.2.2.2.2.2.2.2.2.2.2.2.2.2.2.2.1 hn5 hL6 hL2 (by omega) (by omega) hI go)
      refine rl_case 23 (fun c23 => ?_) (fun c23 => ?_)
      · refine rq_ti c23.symm ?_
        refine rl_tabK (tgt := 865) dL_law_33 (by decide) (by decide) rfl (by decide) ?_
        exact rl_sub (rw_lc rfl (rw_lc rfl (rw_lc rfl (rw_lc rfl rw_lz)))) (li_textTold hops.2.2.2.2.2.2.2.2.2.2.2.2.2.2.2.2.2.2.2.2.2.2.2.1 hn5 hL6 hL2 (by omega) (by omega) hI go)
      refine rl_case 24 (fun c24 => ?_) (fun c24 => ?_)
      · refine rq_ti c24.symm ?_
        refine rl_tabK (tgt := 898) dL_law_33 (by decide) (by decide) rfl (by decide) ?_
        exact rl_sub (rw_lc rfl (rw_lc rfl (rw_lc rfl (rw_lc rfl rw_lz)))) (li_why hops.2.2.2.2.2.2.2.2.2.2.2.2.2.2.2.2.2.2.2.2.2.2.2.2.1 hn5 hL6 hL2 (by omega) (by omega) hI go)
      refine rl_case 25 (fun c25 => ?_) (fun c25 => ?_)
      · refine rq_ti c25.symm ?_
        refine rl_tabK (tgt := 921) dL_law_33 (by decide) (by decide) rfl (by decide) ?_
        exact rl_sub (rw_lc rfl (rw_lc rfl (rw_lc rfl (rw_lc rfl rw_lz)))) (li_fullBy hops.2.2.2.2.2.2.2.2.2.2.2.2.2.2.2.2.2.2.2.2.2.2.2.2.2.1 hn5 hL6 hL2 (by omega) (by omega) hI go)
      refine rl_case 26 (fun c26 => ?_) (fun c26 => ?_)
      · refine rq_ti c26.symm ?_
        refine rl_tabK (tgt := 934) dL_law_33 (by decide) (by decide) rfl (by decide) ?_
        exact rl_sub (rw_lc rfl (rw_lc rfl (rw_lc rfl (rw_lc rfl rw_lz)))) (li_most hops.2.2.2.2.2.2.2.2.2.2.2.2.2.2.2.2.2.2.2.2.2.2.2.2.2.2.1 hn5 hL6 hL2 (by omega) (by omega) hI go)
      refine rl_case 27 (fun c27 => ?_) (fun c27 => ?_)
      · refine rq_ti c27.symm ?_
        refine rl_tabK (tgt := 967) dL_law_33 (by decide) (by decide) rfl (by decide) ?_
        exact rl_sub (rw_lc rfl (rw_lc rfl (rw_lc rfl (rw_lc rfl rw_lz)))) (li_wall hops.2.2.2.2.2.2.2.2.2.2.2.2.2.2.2.2.2.2.2.2.2.2.2.2.2.2.2.1 hn5 hL6 hL2 (by omega) (by omega) hI go)
      refine rl_case 28 (fun c28 => ?_) (fun c28 => ?_)
      · refine rq_ti c28.symm ?_
        refine rl_tabK (tgt := 1000) dL_law_33 (by decide) (by decide) rfl (by decide) ?_
        exact rl_sub (rw_lc rfl (rw_lc rfl (rw_lc rfl (rw_lc rfl rw_lz)))) (li_inch hops.2.2.2.2.2.2.2.2.2.2.2.2.2.2.2.2.2.2.2.2.2.2.2.2.2.2.2.2.1 hn5 hL6 hL2 (by omega) (by omega) hI go)
      refine rl_case 29 (fun c29 => ?_) (fun c29 => ?_)
      · refine rq_ti c29.symm ?_
        refine rl_tabK (tgt := 1023) dL_law_33 (by decide) (by decide) rfl (by decide) ?_
        exact rl_sub (rw_lc rfl (rw_lc rfl (rw_lc rfl (rw_lc rfl rw_lz)))) (li_shift hops.2.2.2.2.2.2.2.2.2.2.2.2.2.2.2.2.2.2.2.2.2.2.2.2.2.2.2.2.2.1 hn5 hL6 hL2 (by omega) (by omega) hI go)
      refine rl_case 30 (fun c30 => ?_) (fun c30 => ?_)
      · refine rq_ti c30.symm ?_
        refine rl_tabK (tgt := 1056) dL_law_33 (by decide) (by decide) rfl (by decide) ?_
        exact rl_sub (rw_lc rfl (rw_lc rfl (rw_lc rfl (rw_lc rfl rw_lz)))) (li_sheet hops.2.2.2.2.2.2.2.2.2.2.2.2.2.2.2.2.2.2.2.2.2.2.2.2.2.2.2.2.2.2.1 hn5 hL6 hL2 (by omega) (by omega) hI go)
      refine rl_case 31 (fun c31 => ?_) (fun c31 => ?_)
      · refine rq_ti c31.symm ?_
        refine rl_tabK (tgt := 1099) dL_law_33 (by decide) (by decide) rfl (by decide) ?_
        exact rl_sub (rw_lc rfl (rw_lc rfl (rw_lc rfl (rw_lc rfl rw_lz)))) (li_mark hops.2.2.2.2.2.2.2.2.2.2.2.2.2.2.2.2.2.2.2.2.2.2.2.2.2.2.2.2.2.2.2.1 hn5 hL6 hL2 (by omega) (by omega) hI go)
      refine rl_case 32 (fun c32 => ?_) (fun c32 => ?_)
      · refine rq_ti c32.symm ?_
        refine rl_tabK (tgt := 1142) dL_law_33 (by decide) (by decide) rfl (by decide) ?_
        exact rl_sub (rw_lc rfl (rw_lc rfl (rw_lc rfl (rw_lc rfl rw_lz)))) (li_pour hops.2.2.2.2.2.2.2.2.2.2.2.2.2.2.2.2.2.2.2.2.2.2.2.2.2.2.2.2.2.2.2.2.1 hn5 hL6 hL2 (by omega) (by omega) hI go)
      refine rl_case 33 (fun c33 => ?_) (fun c33 => ?_)
      · refine rq_ti c33.symm ?_
        refine rl_tabK (tgt := 1175) dL_law_33 (by decide) (by decide) rfl (by decide) ?_
        exact rl_sub (rw_lc rfl (rw_lc rfl (rw_lc rfl (rw_lc rfl rw_lz)))) (li_copy hops.2.2.2.2.2.2.2.2.2.2.2.2.2.2.2.2.2.2.2.2.2.2.2.2.2.2.2.2.2.2.2.2.2.1 hn5 hL6 hL2 (by omega) (by omega) hI go)
      refine rl_case 34 (fun c34 => ?_) (fun c34 => ?_)
      · refine rq_ti c34.symm ?_
        refine rl_tabK (tgt := 1238) dL_law_33 (by decide) (by decide) rfl (by decide) ?_
        exact rl_sub (rw_lc rfl (rw_lc rfl (rw_lc rfl (rw_lc rfl rw_lz)))) (li_lay hops.2.2.2.2.2.2.2.2.2.2.2.2.2.2.2.2.2.2.2.2.2.2.2.2.2.2.2.2.2.2.2.2.2.2.1 hn5 hL6 hL2 (by omega) (by omega) hI go)
      refine rl_case 35 (fun c35 => ?_) (fun c35 => ?_)
      · refine rq_ti c35.symm ?_
        refine rl_tabK (tgt := 1281) dL_law_33 (by decide) (by decide) rfl (by decide) ?_
        exact rl_sub (rw_lc rfl (rw_lc rfl (rw_lc rfl (rw_lc rfl rw_lz)))) (li_ask hops.2.2.2.2.2.2.2.2.2.2.2.2.2.2.2.2.2.2.2.2.2.2.2.2.2.2.2.2.2.2.2.2.2.2.2.1 hn5 hL6 hL2 (by omega) (by omega) hI go)
      refine rl_case 36 (fun c36 => ?_) (fun c36 => ?_)
      · refine rq_ti c36.symm ?_
        refine rl_tabK (tgt := 1314) dL_law_33 (by decide) (by decide) rfl (by decide) ?_
        exact rl_sub (rw_lc rfl (rw_lc rfl (rw_lc rfl (rw_lc rfl rw_lz)))) (li_item hops.2.2.2.2.2.2.2.2.2.2.2.2.2.2.2.2.2.2.2.2.2.2.2.2.2.2.2.2.2.2.2.2.2.2.2.2.1 hn5 hL6 hL2 (by omega) (by omega) hI go)
      refine rl_case 37 (fun c37 => ?_) (fun c37 => ?_)
      · refine rq_ti c37.symm ?_
        refine rl_tabK (tgt := 1347) dL_law_33 (by decide) (by decide) rfl (by decide) ?_
        exact rl_sub (rw_lc rfl (rw_lc rfl (rw_lc rfl (rw_lc rfl rw_lz)))) (li_rest hops.2.2.2.2.2.2.2.2.2.2.2.2.2.2.2.2.2.2.2.2.2.2.2.2.2.2.2.2.2.2.2.2.2.2.2.2.2.1 hn5 hL6 hL2 (by omega) (by omega) hI go)
      refine rl_case 38 (fun c38 => ?_) (fun c38 => ?_)
      · refine rq_ti c38.symm ?_
        refine rl_tabK (tgt := 1380) dL_law_33 (by decide) (by decide) rfl (by decide) ?_
        exact rl_sub (rw_lc rfl (rw_lc rfl (rw_lc rfl (rw_lc rfl rw_lz)))) (li_tell hops.2.2.2.2.2.2.2.2.2.2.2.2.2.2.2.2.2.2.2.2.2.2.2.2.2.2.2.2.2.2.2.2.2.2.2.2.2.2.1 hn5 hL6 hL2 (by omega) (by omega) hI go)
      refine rl_case 39 (fun c39 => ?_) (fun c39 => ?_)
      · refine rq_ti c39.symm ?_
        refine rl_tabK (tgt := 1403) dL_law_33 (by decide) (by decide) rfl (by decide) ?_
        exact rl_sub (rw_lc rfl (rw_lc rfl (rw_lc rfl (rw_lc rfl rw_lz)))) (li_check hops.2.2.2.2.2.2.2.2.2.2.2.2.2.2.2.2.2.2.2.2.2.2.2.2.2.2.2.2.2.2.2.2.2.2.2.2.2.2.2.1 hn5 hL6 hL2 (by omega) (by omega) hI go)
      refine rl_case 40 (fun c40 => ?_) (fun c40 => ?_)
      · refine rq_ti c40.symm ?_
        refine rl_tabK (tgt := 1426) dL_law_33 (by decide) (by decide) rfl (by decide) ?_
        exact rl_sub (rw_lc rfl (rw_lc rfl (rw_lc rfl (rw_lc rfl rw_lz)))) (li_keep hops.2.2.2.2.2.2.2.2.2.2.2.2.2.2.2.2.2.2.2.2.2.2.2.2.2.2.2.2.2.2.2.2.2.2.2.2.2.2.2.2.1 hn5 hL6 hL2 (by omega) (by omega) hI go)
      refine rl_case 41 (fun c41 => ?_) (fun c41 => ?_)
      · refine rq_ti c41.symm ?_
        refine rl_tabK (tgt := 1439) dL_law_33 (by decide) (by decide) rfl (by decide) ?_
        exact rl_sub (rw_lc rfl (rw_lc rfl (rw_lc rfl (rw_lc rfl rw_lz)))) (li_back hops.2.2.2.2.2.2.2.2.2.2.2.2.2.2.2.2.2.2.2.2.2.2.2.2.2.2.2.2.2.2.2.2.2.2.2.2.2.2.2.2.2.1 hn5 hL6 hL2 (by omega) (by omega) hI go)
      refine rl_case 42 (fun c42 => ?_) (fun c42 => ?_)
      · refine rq_ti c42.symm ?_
        refine rl_tabK (tgt := 1452) dL_law_33 (by decide) (by decide) rfl (by decide) ?_
        exact rl_sub (rw_lc rfl (rw_lc rfl (rw_lc rfl (rw_lc rfl rw_lz)))) (li_count hops.2.2.2.2.2.2.2.2.2.2.2.2.2.2.2.2.2.2.2.2.2.2.2.2.2.2.2.2.2.2.2.2.2.2.2.2.2.2.2.2.2.2 hn5 hL6 hL2 (by omega) (by omega) hI go)
      · refine rl_tabD (tgt := 1475) dL_law_33 (by have := lv_neT (a := 0) c0 (by decide); have := lv_neT (a := 1) c1 (by decide); have := lv_neT (a := 2) c2 (by decide); have := lv_neT (a := 3) c3 (by decide); have := lv_neT (a := 4) c4 (by decide); have := lv_neT (a := 5) c5 (by decide); have := lv_neT (a := 6) c6 (by decide); have := lv_neT (a := 7) c7 (by decide); have := lv_neT (a := 8) c8 (by decide); have := lv_neT (a := 9) c9 (by decide); have := lv_neT (a := 10) c10 (by decide); have := lv_neT (a := 11) c11 (by decide); have := lv_neT (a := 12) c12 (by decide); have := lv_neT (a := 13) c13 (by decide); have := lv_neT (a := 14) c14 (by decide); have := lv_neT (a := 15) c15 (by decide); have := lv_neT (a := 16) c16 (by decide); have := lv_neT (a := 17) c17 (by decide); have := lv_neT (a := 18) c18 (by decide); have := lv_neT (a := 19) c19 (by decide); have := lv_neT (a := 20) c20 (by decide); have := lv_neT (a := 21) c21 (by decide); have := lv_neT (a := 22) c22 (by decide); have := lv_neT (a := 23) c23 (by decide); have := lv_neT (a := 24) c24 (by decide); have := lv_neT (a := 25) c25 (by decide); have := lv_neT (a := 26) c26 (by decide); have := lv_neT (a := 27) c27 (by decide); have := lv_neT (a := 28) c28 (by decide); have := lv_neT (a := 29) c29 (by decide); have := lv_neT (a := 30) c30 (by decide); have := lv_neT (a := 31) c31 (by decide); have := lv_neT (a := 32) c32 (by decide); have := lv_neT (a := 33) c33 (by decide); have := lv_neT (a := 34) c34 (by decide); have := lv_neT (a := 35) c35 (by decide); have := lv_neT (a := 36) c36 (by decide); have := lv_neT (a := 37) c37 (by decide); have := lv_neT (a := 38) c38 (by decide); have := lv_neT (a := 39) c39 (by decide); have := lv_neT (a := 40) c40 (by decide); have := lv_neT (a := 41) c41 (by decide); have := lv_neT (a := 42) c42 (by decide); omega) (by decide) ?_
        refine rl_widen (cu' := cu + 3) (su' := su + 196) (by omega) (by omega) (by omega) (by omega) ?_
        exact rl_sub (rw_lc rfl (rw_lc rfl (rw_lc rfl (rw_lc rfl rw_lz)))) (go w M (hmono n M hI))
