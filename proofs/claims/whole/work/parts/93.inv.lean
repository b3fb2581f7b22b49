/-! level 2: a new object -/
def z_s0 (i : Nat) : Nat := if i = 1 then 100 else if i = 2 then 2 else if i = 3 then 336 else 0
theorem z_s0z {i : Nat} (h : 3 < i) : z_s0 i = 0 := by
  unfold z_s0
  rw [if_neg (by omega), if_neg (by omega), if_neg (by omega)]
theorem z_W0 : z_W z_s0 := by
  refine ⟨?_, fun i hi => ?_, fun i hi => ?_, fun i hi => ?_⟩
  · unfold z_WN z_s0
    decide
  · rw [z_s0z (by omega)] at hi; omega
  · rw [z_s0z (by omega)] at hi; omega
  · rw [z_s0z (by omega)] at hi; omega
theorem z_Stk0 : z_Stk bw_M0 25 94 z_s0 (fun _ => (0, 0, [])) := by
  refine ⟨z_W0, fun i i1 i2 => ?_, rfl, ⟨rfl, rfl, rfl, rfl, rfl, rfl, rfl⟩, fun i hi => ?_, fun i hi => ?_, fun i hi => ?_, fun t ht => ?_⟩
  · show upd (upd (upd (upd (fun _ => 0) 0 1) 1 100) 2 2) 3 336 i = nI (z_s0 i)
    unfold z_s0 upd
    by_cases c3 : i = 3
    · subst c3; rfl
    · by_cases c2 : i = 2
      · subst c2; rfl
      · by_cases c1 : i = 1
        · subst c1; rfl
        · rw [if_neg c3, if_neg c2, if_neg c1, if_neg (by omega), if_neg c1, if_neg c2, if_neg c3]; rfl
  · rw [z_s0z (by omega)] at hi; omega
  · rw [z_s0z (by omega)] at hi; omega
  · rw [z_s0z (by omega)] at hi; omega
  · rw [z_s0z (by omega)] at ht; omega
theorem z_Inv0 : Inv 0 bw_M0 := by
  refine ⟨⟨_, _, z_Stk0⟩, ⟨rfl, Or.inl rfl⟩, ⟨0, by omega, rfl, rfl, fun i hi => by omega⟩, ⟨rfl, rfl⟩, fun k hk => ?_, fun k hk => ?_, ⟨0, by omega, rfl, rfl, fun i hi => by omega⟩, ⟨0, by omega, rfl, fun i hi => ⟨0, by omega, rfl⟩⟩, ⟨0, by omega, by omega, rfl⟩, fun i hi => ⟨⟨0, Nat.zero_le _, rfl⟩, ⟨0, Nat.zero_le _, rfl⟩⟩, ⟨0, Nat.zero_le _, rfl⟩, ⟨0, Nat.zero_le _, rfl⟩⟩
  · obtain rfl | rfl | rfl | rfl : k = 0 ∨ k = 1 ∨ k = 2 ∨ k = 3 := by omega
    all_goals exact ⟨rfl, Or.inl rfl, ⟨0, by omega, rfl, rfl⟩, fun i hi => rfl⟩
  · obtain rfl | rfl | rfl | rfl | rfl : k = 0 ∨ k = 1 ∨ k = 2 ∨ k = 3 ∨ k = 4 := by omega
    all_goals exact ⟨rfl, 0, by omega, rfl, fun h => by omega, fun h => by omega, fun h => by omega⟩
theorem z_Ops : Ops Inv := ⟨op_book, op_bookTold, op_tie, op_deal, op_seed, op_set, op_board, op_told, op_as, op_turns, op_drop, op_judge, op_setting, op_line, op_allow, op_clear, op_cases, op_few, op_apart, op_edge, op_feed, op_trim, op_text, op_textTold, op_why, op_fullBy, op_most, op_wall, op_inch, op_shift, op_sheet, op_mark, op_pour, op_copy, op_lay, op_ask, op_item, op_rest, op_tell, op_check, op_keep, op_back, op_count⟩
