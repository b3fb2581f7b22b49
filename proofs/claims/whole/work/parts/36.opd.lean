/-! level 2: allow, drop, deal -/
def z_any (p : Nat → Bool) : Nat → Nat → Bool
  | 0, _ => false
  | r + 1, i => p i || z_any p r (i + 1)
theorem z_isAl {M : Mem} {S c : Nat} {g : Nat → Nat} {v : Int32} (h11 : M S 11 = nI c) (hc : c ≤ 6) (hA : ∀ i, i < c → M (S + 6) i = nI (g i)) : ∀ r i fu, i + r = c → r < fu → f_X6_isAllowed_L2 M S v fu (nI i) = some (if z_any (fun k => decide (nI (g k) = v)) r i = true then 1 else 0) := by
  intro r
  induction r with
  | zero =>
    intro i fu h1 h2
    obtain ⟨fu, rfl⟩ : ∃ f, fu = f + 1 := ⟨fu - 1, by omega⟩
    rw [f_X6_isAllowed_L2, h11, if_pos (nI_le (by omega) (by omega))]
    rfl
  | succ r ih =>
    intro i fu h1 h2
    obtain ⟨fu, rfl⟩ : ∃ f, fu = f + 1 := ⟨fu - 1, by omega⟩
    rw [f_X6_isAllowed_L2, h11, if_neg (nI_ge (by omega) (by omega)), z_ib (by omega) (by omega), if_pos rfl, nI_clamp (by omega), hA i (by omega), z_any]
    by_cases e : nI (g i) = v
    · rw [if_pos e]; simp [e]
    · rw [if_neg e, nI_1, ih (i + 1) fu (by omega) (by omega)]; simp [e]
theorem z_mAl {M : Mem} {c : Nat} {g : Nat → Nat} {v : Int32} (h11 : M 94 7 = nI c) (hc : c ≤ 6) (hA : ∀ i, i < c → M 94 (8 + i) = nI (g i)) : ∀ r i fu, i + r = c → r < fu → f_X10_allow_L15 M v fu (nI i) = if z_any (fun k => decide (nI (g k) = v)) r i = true then some (-1000000002, M) else if c = 6 then some (-1000000003, M) else some (nI (c + 1), bw_up (bw_up M 94 (8 + c) v) 94 7 (nI (c + 1))) := by
  intro r
  induction r with
  | zero =>
    intro i fu h1 h2
    obtain ⟨fu, rfl⟩ : ∃ f, fu = f + 1 := ⟨fu - 1, by omega⟩
    rw [f_X10_allow_L15, z_c7, h11, if_pos (nI_le (by omega) (by omega)), z_any, if_neg (show ¬ false = true by decide), l_6]
    by_cases e : c = 6
    · rw [if_pos (congrArg nI e), if_pos e]
    · rw [if_neg (z_neI e (by omega) (by omega)), if_neg e]
      simp (disch := omega) only [h11, l_0, l_1, l_2, l_3, l_4, l_5, l_6, l_7, l_8, l_9, l_10, l_11, l_12, l_13, l_14, l_15, l_16, l_17, l_18, l_19, l_20, l_21, l_22, l_23, l_24, l_25, l_26, l_27, l_28, l_29, l_30, l_31, l_33, l_38, l_40, l_41, l_42, l_43, l_45, l_47, l_48, l_57, l_60, l_61, l_62, l_96, l_97, l_99, l_100, l_101, l_104, l_108, l_110, l_112, l_121, l_122, l_124, l_158, l_186, l_255, l_336, l_999, l_1000, l_1530, l_9999, l_10000, l_99999, z_ml, nI_add, pk_sub, pk_mul, nI_clamp, nI_ltI, nI_leI, nI_eq, z_ib, z_in, z_up, z_up_k, if_pos, if_neg, ite_true, ite_false, and_self, and_true, true_and, and_false, false_and, Nat.add_sub_cancel, Nat.reduceAdd, Nat.reduceMul, Option.bind_some, eq_self]
  | succ r ih =>
    intro i fu h1 h2
    obtain ⟨fu, rfl⟩ : ∃ f, fu = f + 1 := ⟨fu - 1, by omega⟩
    rw [f_X10_allow_L15, z_c7, h11, if_neg (nI_ge (by omega) (by omega)), l_8, nI_add, z_ib (by omega) (by omega), if_pos rfl, nI_clamp (by omega), hA i (by omega), z_any]
    by_cases e : nI (g i) = v
    · rw [if_pos e]; simp [e]
    · rw [if_neg e, nI_1, ih (i + 1) fu (by omega) (by omega)]; simp [e]
theorem op_allow : Op_allow Inv := by
  intro n M a hn hI
  have hI' := hI
  obtain ⟨⟨s, u, hS⟩, -⟩ := hI'
  have hS' := hS
  obtain ⟨hW, hM, hz, c1, c2, c3, c4, hT⟩ := hS
  obtain ⟨w1, w2, w3, w4, w5, w6, w7, w8, w9⟩ := hW.1
  obtain ⟨d1, d2, d3, d4, d5, d6, d7⟩ := c1
  have m4 : M 94 4 = nI (s 4) := hM 4 (by omega) (by omega)
  have m5 : M 94 5 = nI (s 5) := hM 5 (by omega) (by omega)
  have m6 : M 94 6 = nI (s 6) := hM 6 (by omega) (by omega)
  have m7 : M 94 7 = nI (s 7) := hM 7 (by omega) (by omega)
  have hfu : (7 : Nat) < bw_fu := by decide
  rcases z_wi a 1 99 (by omega) (by omega) with e | ⟨e, h, h1, h2, rfl⟩
  · rw [← l_1, ← l_99] at e
    refine ⟨-1000000001, M, M, ?_, ?_, z_nochange hI⟩
    · unfold f_X9_allow; rw [if_pos e]
    · unfold f_X10_allow; rw [z_in, if_pos e]
  · rw [← l_1, ← l_99] at e
    have x1 := z_isAl (M := M) (S := 25) (g := fun i => s (8 + i)) (v := nI h) d6 w4 c4 (s 7) 0 bw_fu (by omega) (by omega)
    have x2 : ∀ M1 : Mem, M1 94 = M 94 → _ := fun M1 hM1 => z_mAl (M := M1) (g := fun i => s (8 + i)) (v := nI h) (by rw [hM1]; exact m7) w4 (fun i hi => by rw [hM1]; exact hM (8 + i) (by omega) (by omega)) (s 7) 0 bw_fu (by omega) (by omega)
    by_cases q : z_any (fun k => decide (nI (s (8 + k)) = nI h)) (s 7) 0 = true
    · refine ⟨-1000000002, M, M, ?_, ?_, z_nochange hI⟩
      · unfold f_X9_allow f_X6_isAllowed
        rw [e, if_neg (by decide), l_0, x1, if_pos q, Option.bind_some, if_neg (by decide)]
      · unfold f_X10_allow
        rw [z_in, e, if_neg (by decide), l_0, x2 M rfl, if_pos q]
    · by_cases g : s 7 < 6
      · refine ⟨nI (s 7 + 1), bw_up (bw_up M 31 (s 7) (nI h)) 25 11 (nI (s 7 + 1)), bw_up (bw_up (bw_up (bw_up M 31 (s 7) (nI h)) 25 11 (nI (s 7 + 1))) 94 (8 + s 7) (nI h)) 94 7 (nI (s 7 + 1)), ?_, ?_, ?_⟩
        · unfold f_X9_allow f_X6_isAllowed f_X6_addAllowed
          rw [e, if_neg (by decide), l_0, x1, if_neg q, Option.bind_some, if_pos (by decide), d6]
          simp (disch := omega) only [d6, l_0, l_1, l_2, l_3, l_4, l_5, l_6, l_7, l_8, l_9, l_10, l_11, l_12, l_13, l_14, l_15, l_16, l_17, l_18, l_19, l_20, l_21, l_22, l_23, l_24, l_25, l_26, l_27, l_28, l_29, l_30, l_31, l_33, l_38, l_40, l_41, l_42, l_43, l_45, l_47, l_48, l_57, l_60, l_61, l_62, l_96, l_97, l_99, l_100, l_101, l_104, l_108, l_110, l_112, l_121, l_122, l_124, l_158, l_186, l_255, l_336, l_999, l_1000, l_1530, l_9999, l_10000, l_99999, z_ml, nI_add, pk_sub, pk_mul, nI_clamp, nI_ltI, nI_leI, nI_eq, z_ib, z_in, z_up, z_up_k, if_pos, if_neg, ite_true, ite_false, and_self, and_true, true_and, and_false, false_and, Nat.add_sub_cancel, Nat.reduceAdd, Nat.reduceMul, Option.bind_some, eq_self]
        · unfold f_X10_allow
          rw [z_in, e, if_neg (by decide), l_0, x2 _ (by simp (disch := omega) only [z_up_k]), if_neg q, if_neg (by omega)]
        · refine z_Inv_stk hI ?_ ⟨z_su (z_su s (8 + s 7) h) 7 (s 7 + 1), u, z_Stk_mk hS' ?_ ?_ ?_ ?_ ?_ ?_ ?_ ?_⟩ (z_32 hI ?_)
          · intro k hk
            simp (disch := omega) only [z_up_k]
          · obtain ⟨hN, hB, hD, hA⟩ := hW
            refine ⟨?_, ?_, ?_, ?_⟩
            · simp (disch := omega) only [z_WN, z_su_a, if_pos, if_neg, ite_true, ite_false, and_self, and_true, true_and, and_false, false_and]; omega
            · intro i hi
              simp (disch := omega) only [z_su_a, if_pos, if_neg, ite_true, ite_false, and_self, and_true, true_and, and_false, false_and] at hi
              have := hB i hi
              simp (disch := omega) only [z_su_a, if_pos, if_neg, ite_true, ite_false, and_self, and_true, true_and, and_false, false_and]; exact this
            · intro i hi
              simp (disch := omega) only [z_su_a, if_pos, if_neg, ite_true, ite_false, and_self, and_true, true_and, and_false, false_and] at hi
              have := hD i hi
              simp (disch := omega) only [z_su_a, if_pos, if_neg, ite_true, ite_false, and_self, and_true, true_and, and_false, false_and]; exact this
            · intro i hi
              simp (disch := omega) only [z_su_a, if_pos, if_neg, ite_true, ite_false, and_self, and_true, true_and, and_false, false_and] at hi
              by_cases g : i = s 7
              · subst g
                simp (disch := omega) only [z_su_a, if_pos, if_neg, ite_true, ite_false, and_self, and_true, true_and, and_false, false_and]; omega
              · have := hA i (by omega)
                simp (disch := omega) only [z_su_a, if_pos, if_neg, ite_true, ite_false, and_self, and_true, true_and, and_false, false_and]; exact this
          · refine z_MR_up (z_MR_up ?_)
            intro i h1 h2
            simp (disch := omega) only [z_up_k]; exact hM i h1 h2
          · simp (disch := omega) only [z_up, if_pos, if_neg, ite_true, ite_false, and_self, and_true, true_and, and_false, false_and]; exact hz
          · refine ⟨?_, ?_, ?_, ?_⟩
            · simp (disch := omega) only [z_CN, z_up, z_su_a, if_pos, if_neg, ite_true, ite_false, and_self, and_true, true_and, and_false, false_and]; exact ⟨d1, d2, d3, d4, d5, d7⟩
            · intro i hi
              simp (disch := omega) only [z_su_a, if_pos, if_neg, ite_true, ite_false, and_self, and_true, true_and, and_false, false_and] at hi
              have := c2 i hi
              simp (disch := omega) only [z_up, z_su_a, if_pos, if_neg, ite_true, ite_false, and_self, and_true, true_and, and_false, false_and]; exact this
            · intro i hi
              simp (disch := omega) only [z_su_a, if_pos, if_neg, ite_true, ite_false, and_self, and_true, true_and, and_false, false_and] at hi
              have := c3 i hi
              simp (disch := omega) only [z_up, z_su_a, if_pos, if_neg, ite_true, ite_false, and_self, and_true, true_and, and_false, false_and]; exact this
            · intro i hi
              simp (disch := omega) only [z_su_a, if_pos, if_neg, ite_true, ite_false, and_self, and_true, true_and, and_false, false_and] at hi
              by_cases g : i = s 7
              · subst g
                simp (disch := omega) only [z_up, z_su_a, if_pos, if_neg, ite_true, ite_false, and_self, and_true, true_and, and_false, false_and]
              · have := c4 i (by omega)
                simp (disch := omega) only [z_up, z_su_a, if_pos, if_neg, ite_true, ite_false, and_self, and_true, true_and, and_false, false_and]; exact this
          · simp (disch := omega) only [z_su_a, if_pos, if_neg, ite_true, ite_false, and_self, and_true, true_and, and_false, false_and]
          · simp (disch := omega) only [z_up_k]
          · intro i hi
            simp (disch := omega) only [z_up, if_pos, if_neg, ite_true, ite_false, and_self, and_true, true_and, and_false, false_and]
          · intro c
            simp (disch := omega) only [z_up_k, and_self]
          · simp (disch := omega) only [z_up_k]
      · have g6 : s 7 = 6 := by omega
        refine ⟨-1000000003, M, M, ?_, ?_, z_nochange hI⟩
        · unfold f_X9_allow f_X6_isAllowed
          rw [e, if_neg (by decide), l_0, x1, if_neg q, Option.bind_some, if_pos (by decide), d6, l_6, if_neg (nI_nlt (by omega) (by omega))]
        · unfold f_X10_allow
          rw [z_in, e, if_neg (by decide), l_0, x2 M rfl, if_neg q, if_pos g6]
/-- boards move up -/
theorem z_cDrop {c : Nat} (hc : 1 ≤ c) (hc2 : c ≤ 12) : ∀ r i fu (M : Mem), M 25 9 = nI c → i + 1 + r = c → r < fu → ∃ M', f_X6_dropBoard_L6 25 fu (nI i) M = some (nI (c - 1), M') ∧ M' 25 9 = nI (c - 1) ∧ (∀ x, x ≠ 9 → M' 25 x = M 25 x) ∧ (∀ k, i ≤ k → k + 1 < c → ∀ p, p < 4 → M' (33 + k) p = M (33 + (k + 1)) p) ∧ (∀ b, b ≠ 25 → b < 33 + i ∨ 33 + c ≤ b + 1 → M' b = M b) := by
  intro r
  induction r with
  | zero =>
    intro i fu M h9 h1 h2
    obtain ⟨fu, rfl⟩ : ∃ f, fu = f + 1 := ⟨fu - 1, by omega⟩
    refine ⟨bw_up M 25 9 (nI (c - 1)), ?_, ?_, ?_, ?_, ?_⟩
    · rw [f_X6_dropBoard_L6, h9, nI_1, if_pos (nI_le (by omega) (by omega)), l_1, pk_sub (by omega), z_ml, z_up_s]
    · rw [z_up_s]
    · intro x hx; rw [z_up_i _ _ _ _ hx]
    · intro k h3 h4; omega
    · intro b hb _; rw [z_up_k _ _ _ _ hb]
  | succ r ih =>
    intro i fu M h9 h1 h2
    obtain ⟨fu, rfl⟩ : ∃ f, fu = f + 1 := ⟨fu - 1, by omega⟩
    obtain ⟨M1, hM1⟩ : ∃ M1, M1 = bw_up (bw_up (bw_up (bw_up M (33 + i) 0 (M (33 + (i + 1)) 0)) (33 + i) 1 (M (33 + (i + 1)) 1)) (33 + i) 2 (M (33 + (i + 1)) 2)) (33 + i) 3 (M (33 + (i + 1)) 3) := ⟨_, rfl⟩
    have o : ∀ b, b ≠ 33 + i → M1 b = M b := by
      intro b hb; rw [hM1]; simp (disch := omega) only [z_up_k]
    have v : ∀ p, p < 4 → M1 (33 + i) p = M (33 + (i + 1)) p := by
      intro p hp
      rw [hM1]
      rcases (by omega : p = 0 ∨ p = 1 ∨ p = 2 ∨ p = 3) with rfl | rfl | rfl | rfl <;> simp (disch := omega) only [z_up, if_pos, if_neg, ite_true, ite_false, and_self, and_true, true_and, and_false, false_and]
    obtain ⟨M', e1, e2, e3, e4, e5⟩ := ih (i + 1) fu M1 (by rw [o 25 (by omega)]; exact h9) (by omega) (by omega)
    refine ⟨M', ?_, e2, ?_, ?_, ?_⟩
    · rw [f_X6_dropBoard_L6, h9, nI_1, if_neg (nI_ge (by omega) (by omega)), z_ib (by omega) (by omega), if_pos rfl, z_ib (by omega) (by omega), if_pos rfl, nI_clamp (by omega), nI_clamp (by omega)]
      have : f_X0_become M (25 + 8 + i) (25 + 8 + (i + 1)) = some M1 := by
        rw [hM1]
        simp (disch := omega) only [f_X0_become, z_ml, z_up, if_pos, if_neg, ite_true, ite_false, and_self, and_true, true_and, and_false, false_and, Nat.reduceAdd]
      rw [this, Option.bind_some, e1]
    · intro x hx; rw [e3 x hx, o 25 (by omega)]
    · intro k h3 h4 p hp
      by_cases g : k = i
      · subst g
        rw [e5 (33 + k) (by omega) (by omega), v p hp]
      · rw [e4 k (by omega) h4 p hp, o _ (by omega)]
    · intro b hb hb2
      rw [e5 b hb (by omega), o b (by omega)]
theorem z_mDrop {c : Nat} (hc2 : c ≤ 12) : ∀ r a fu (M : Mem), M 94 5 = nI c → a + r = 110 + 4 * c → 110 ≤ a → r < fu → ∃ M', f_X10_drop_L28 fu (nI a) M = some (nI c, M') ∧ (∀ k, M' 94 k = if a ≤ k ∧ k < 110 + 4 * c then M 94 (k + 4) else M 94 k) ∧ (∀ b, b ≠ 94 → M' b = M b) := by
  intro r
  induction r with
  | zero =>
    intro a fu M h5 h1 h0 h2
    obtain ⟨fu, rfl⟩ : ∃ f, fu = f + 1 := ⟨fu - 1, by omega⟩
    refine ⟨M, ?_, ?_, fun _ _ => rfl⟩
    · rw [f_X10_drop_L28, z_c5, h5, l_110, l_4, pk_mul, nI_add, if_pos (nI_le (by omega) (by omega))]
    · intro k; rw [if_neg (by omega)]
  | succ r ih =>
    intro a fu M h5 h1 h0 h2
    obtain ⟨fu, rfl⟩ : ∃ f, fu = f + 1 := ⟨fu - 1, by omega⟩
    obtain ⟨M', e1, e2, e3⟩ := ih (a + 1) fu (bw_up M 94 a (M 94 (a + 4))) (by rw [z_up_i _ _ _ _ (by omega)]; exact h5) (by omega) (by omega) (by omega)
    refine ⟨M', ?_, ?_, ?_⟩
    · rw [f_X10_drop_L28, z_c5, h5, l_110, l_4, pk_mul, nI_add, if_neg (nI_ge (by omega) (by omega)), nI_add, z_ib (by omega) (by omega), if_pos rfl, z_ib (by omega) (by omega), if_pos rfl, nI_clamp (by omega), nI_clamp (by omega), z_ml, nI_1, e1]
    · intro k
      rw [e2 k]
      by_cases g : k = a
      · subst g
        rw [if_neg (by omega), if_pos (by omega), z_up_s]
      · by_cases g2 : a + 1 ≤ k ∧ k < 110 + 4 * c
        · rw [if_pos g2, if_pos (by omega), z_up_i _ _ _ _ (by omega)]
        · rw [if_neg g2, if_neg (by omega), z_up_i _ _ _ _ g]
    · intro b hb; rw [e3 b hb, z_up_k _ _ _ _ hb]
theorem op_drop : Op_drop Inv := by
  intro n M a hn hI
  have hI' := hI
  obtain ⟨⟨s, u, hS⟩, -⟩ := hI'
  have hS' := hS
  obtain ⟨hW, hM, hz, c1, c2, c3, c4, hT⟩ := hS
  obtain ⟨w1, w2, w3, w4, w5, w6, w7, w8, w9⟩ := hW.1
  obtain ⟨d1, d2, d3, d4, d5, d6, d7⟩ := c1
  have m4 : M 94 4 = nI (s 4) := hM 4 (by omega) (by omega)
  have m5 : M 94 5 = nI (s 5) := hM 5 (by omega) (by omega)
  have m6 : M 94 6 = nI (s 6) := hM 6 (by omega) (by omega)
  have m7 : M 94 7 = nI (s 7) := hM 7 (by omega) (by omega)
  have hfu : (60 : Nat) < bw_fu := by decide
  rcases z_wi1 a (s 5) (by omega) with e | ⟨e, j, hj, rfl⟩
  · refine ⟨-1000000001, M, M, ?_, ?_, z_nochange hI⟩
    · unfold f_X9_drop f_X6_hasBoard; rw [d5, if_pos e]
    · unfold f_X10_drop f_X10_isBoard; rw [z_in, z_c5, m5, if_pos e]
  · obtain ⟨M1, e1, e2, e3, e4, e5⟩ := z_cDrop (c := s 5) (by omega) (by omega) (s 5 - 1 - j) j bw_fu M d5 (by omega) (by omega)
    have q94 : M1 94 = M 94 := e5 94 (by omega) (by omega)
    obtain ⟨M2, f1, f2, f3⟩ := z_mDrop (c := s 5 - 1) (by omega) (4 * (s 5 - 1 - j)) (110 + 4 * j) bw_fu (bw_up M1 94 5 (nI (s 5 - 1))) (z_up_s _ _ _ _) (by omega) (by omega) (by omega)
    refine ⟨nI (s 5 - 1), M1, M2, ?_, ?_, ?_⟩
    · unfold f_X9_drop f_X6_hasBoard f_X6_dropBoard
      have : bw_max (nI j) 0 = nI j := by
        unfold bw_max; rw [l_0, if_neg (nI_nlt (by omega) (by omega))]
      rw [d5, e, if_neg (by decide), this, e1, Option.bind_some]
    · unfold f_X10_drop f_X10_isBoard
      rw [z_in, z_c5, q94, m5, e, if_neg (by decide), l_1, pk_sub (by omega), z_ml, z_ml, l_110, l_4, pk_mul, nI_add, f1]
    · have r94 : ∀ k, 1 ≤ k → k < 158 → M2 94 k = nI (if k = 5 then s 5 - 1 else if 110 + 4 * j ≤ k ∧ k < 110 + 4 * (s 5 - 1) then s (k + 4) else s k) := by
        intro k h1 h2
        rw [f2 k]
        by_cases g : 110 + 4 * j ≤ k ∧ k < 110 + 4 * (s 5 - 1)
        · rw [if_pos g, if_neg (by omega), if_pos g, z_up_i _ _ _ _ (by omega), q94, hM _ (by omega) (by omega)]
        · rw [if_neg g]
          by_cases g5 : k = 5
          · subst g5; rw [z_up_s, if_pos rfl]
          · rw [if_neg g5, if_neg g, z_up_i _ _ _ _ g5, q94, hM _ h1 h2]
      obtain ⟨s', hs'⟩ : ∃ s' : Nat → Nat, s' = fun k => if k = 5 then s 5 - 1 else if 110 + 4 * j ≤ k ∧ k < 110 + 4 * (s 5 - 1) then s (k + 4) else s k := ⟨_, rfl⟩
      have a5 : s' 5 = s 5 - 1 := by rw [hs']; rfl
      have ao : ∀ k, k ≠ 5 → k < 110 → s' k = s k := by
        intro k h1 h2; rw [hs']; simp only; rw [if_neg h1, if_neg (by omega)]
      have ab : ∀ i p, i < s 5 - 1 → p < 4 → s' (110 + 4 * i + p) = if j ≤ i then s (110 + 4 * (i + 1) + p) else s (110 + 4 * i + p) := by
        intro i p h1 h2
        rw [hs']; simp only; rw [if_neg (by omega)]
        by_cases g : j ≤ i
        · rw [if_pos (by omega), if_pos g]; congr 1; omega
        · rw [if_neg (by omega), if_neg g]
      have cb : ∀ i p, i < s 5 - 1 → p < 4 → M2 (33 + i) p = if j ≤ i then M (33 + (i + 1)) p else M (33 + i) p := by
        intro i p h1 h2
        rw [f3 _ (by omega), z_up_k _ _ _ _ (by omega)]
        by_cases g : j ≤ i
        · rw [if_pos g, e4 i g (by omega) p h2]
        · rw [if_neg g, e5 _ (by omega) (by omega)]
      have oth : ∀ b, b ≠ 25 → b < 33 ∨ 44 < b → b ≠ 94 → M2 b = M b := by
        intro b h1 h2 h3
        rw [f3 b h3, z_up_k _ _ _ _ h3, e5 b h1 (by omega)]
      have o25 : ∀ x, x ≠ 9 → M2 25 x = M 25 x := by
        intro x hx; rw [f3 _ (by omega), z_up_k _ _ _ _ (by omega), e3 x hx]
      refine z_Inv_stk hI ?_ ⟨s', u, z_Stk_mk hS' ?_ ?_ ?_ ?_ ?_ ?_ ?_ ?_⟩ (z_32 hI ?_)
      · intro k hk
        exact oth k (by omega) (by omega) (by omega)
      · obtain ⟨hN, hB, hD, hA⟩ := hW
        refine ⟨?_, ?_, ?_, ?_⟩
        · unfold z_WN
          rw [a5, ao 4 (by omega) (by omega), ao 6 (by omega) (by omega), ao 7 (by omega) (by omega), ao 1 (by omega) (by omega), ao 2 (by omega) (by omega), ao 3 (by omega) (by omega)]
          omega
        · intro i hi
          rw [ao 4 (by omega) (by omega)] at hi
          have := hB i hi
          rw [ao _ (by omega) (by omega), ao _ (by omega) (by omega), ao _ (by omega) (by omega), ao _ (by omega) (by omega)]
          exact this
        · intro i hi
          rw [a5] at hi
          have b0 := ab i 0 hi (by omega)
          have b1 := ab i 1 hi (by omega)
          have b2 := ab i 2 hi (by omega)
          have b3 := ab i 3 hi (by omega)
          rw [show 110 + 4 * i + 0 = 110 + 4 * i by omega] at b0
          rw [show 110 + 4 * i + 1 = 111 + 4 * i by omega, show 110 + 4 * (i + 1) + 1 = 111 + 4 * (i + 1) by omega] at b1
          rw [show 110 + 4 * i + 2 = 112 + 4 * i by omega, show 110 + 4 * (i + 1) + 2 = 112 + 4 * (i + 1) by omega] at b2
          rw [show 110 + 4 * i + 3 = 113 + 4 * i by omega, show 110 + 4 * (i + 1) + 3 = 113 + 4 * (i + 1) by omega] at b3
          rw [b0, b1, b2, b3, ao 4 (by omega) (by omega)]
          by_cases g : j ≤ i
          · rw [if_pos g, if_pos g, if_pos g, if_pos g]; exact hD (i + 1) (by omega)
          · rw [if_neg g, if_neg g, if_neg g, if_neg g]; exact hD i (by omega)
        · intro i hi
          rw [ao 7 (by omega) (by omega)] at hi
          have := hA i hi
          rw [ao _ (by omega) (by omega)]
          exact this
      · intro k h1 h2
        rw [r94 k h1 h2, hs']
      · rw [o25 8 (by omega), f2 0, if_neg (by omega), z_up_i _ _ _ _ (by omega), q94]; exact hz
      · refine ⟨?_, ?_, ?_, ?_⟩
        · unfold z_CN
          rw [o25 0 (by omega), o25 5 (by omega), o25 6 (by omega), o25 7 (by omega), o25 11 (by omega), o25 13 (by omega), a5, ao 4 (by omega) (by omega), ao 6 (by omega) (by omega), ao 7 (by omega) (by omega), ao 1 (by omega) (by omega), ao 2 (by omega) (by omega), ao 3 (by omega) (by omega)]
          refine ⟨d1, d2, d3, d4, ?_, d6, d7⟩
          rw [f3 _ (by omega), z_up_k _ _ _ _ (by omega), e2]
        · intro i hi
          rw [ao 4 (by omega) (by omega)] at hi
          have := c2 i hi
          rw [ao _ (by omega) (by omega), ao _ (by omega) (by omega), ao _ (by omega) (by omega), ao _ (by omega) (by omega), oth _ (by omega) (by omega) (by omega), oth _ (by omega) (by omega) (by omega), oth _ (by omega) (by omega) (by omega), oth _ (by omega) (by omega) (by omega)]
          exact this
        · intro i hi
          rw [a5] at hi
          have b0 := ab i 0 hi (by omega)
          have b1 := ab i 1 hi (by omega)
          have b2 := ab i 2 hi (by omega)
          have b3 := ab i 3 hi (by omega)
          rw [show 110 + 4 * i + 0 = 110 + 4 * i by omega] at b0
          rw [show 110 + 4 * i + 1 = 111 + 4 * i by omega, show 110 + 4 * (i + 1) + 1 = 111 + 4 * (i + 1) by omega] at b1
          rw [show 110 + 4 * i + 2 = 112 + 4 * i by omega, show 110 + 4 * (i + 1) + 2 = 112 + 4 * (i + 1) by omega] at b2
          rw [show 110 + 4 * i + 3 = 113 + 4 * i by omega, show 110 + 4 * (i + 1) + 3 = 113 + 4 * (i + 1) by omega] at b3
          rw [b0, b1, b2, b3, show 25 + 8 + i = 33 + i by omega, cb i 0 hi (by omega), cb i 1 hi (by omega), cb i 2 hi (by omega), cb i 3 hi (by omega)]
          by_cases g : j ≤ i
          · simp only [if_pos g]; exact c3 (i + 1) (by omega)
          · simp only [if_neg g]; exact c3 i (by omega)
        · intro i hi
          rw [ao 7 (by omega) (by omega)] at hi
          have := c4 i hi
          rw [ao _ (by omega) (by omega), oth _ (by omega) (by omega) (by omega)]; exact this
      · rw [ao 6 (by omega) (by omega)]
      · exact oth _ (by omega) (by omega) (by omega)
      · intro i hi
        rw [f2, if_neg (by omega), z_up_i _ _ _ _ (by omega), q94]
      · intro c
        rw [oth _ (by omega) (by omega) (by omega), oth _ (by omega) (by omega) (by omega), oth _ (by omega) (by omega) (by omega)]
        exact ⟨rfl, rfl, rfl⟩
      · exact oth _ (by omega) (by omega) (by omega)
