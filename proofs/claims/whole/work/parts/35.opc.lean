/-! level 2: board, turns, drop, clear, allow, deal -/
theorem z_c4 : (4 : Int32).toNatClampNeg = 4 := rfl
theorem z_c5 : (5 : Int32).toNatClampNeg = 5 := rfl
theorem z_c6 : (6 : Int32).toNatClampNeg = 6 := rfl
theorem z_c7 : (7 : Int32).toNatClampNeg = 7 := rfl
theorem op_board : Op_board Inv := by
  intro n M a b c hn hI
  have hI' := hI
  obtain ⟨⟨s, u, hS⟩, -⟩ := hI'
  have hS' := hS
  obtain ⟨hW, hM, hz, c1, c2, c3, c4, hT⟩ := hS
  obtain ⟨w1, w2, w3, w4, w5, w6, w7, w8, w9⟩ := hW.1
  obtain ⟨d1, d2, d3, d4, d5, d6, d7⟩ := c1
  have m4 : M 94 4 = nI (s 4) := hM 4 (by omega) (by omega)
  have m5 : M 94 5 = nI (s 5) := hM 5 (by omega) (by omega)
  have m6 : M 94 6 = nI (s 6) := hM 6 (by omega) (by omega)
  have m7 : M 94 7 = nI (s 7) := hM 7 (by omega) (by omega)
  have bad : f_X9_board M a b c = some (-1000000001, M) → f_X10_board M a b c = some (-1000000001, M) → ∃ (r : Int32) (M1 M2 : Mem), (f_X9_board M a b c = some (r, M1)) ∧ (f_X10_board M1 a b c = some (r, M2)) ∧ Inv (n + 1) M2 :=
    fun h1 h2 => ⟨_, M, M, h1, h2, z_nochange hI⟩
  unfold f_X9_board f_X10_board f_X9_isKind at bad ⊢
  simp only [z_in] at bad ⊢
  rcases z_wi a 0 5 (by omega) (by omega) with e | ⟨e, k, -, hk, rfl⟩
  · rw [← l_0, ← l_5] at e
    exact bad (by rw [if_pos e]) (by rw [if_pos e])
  · rw [← l_0, ← l_5] at e
    simp only [e, if_neg (by decide : ¬ (1 : Int32) = 0)] at bad ⊢
    by_cases hb : b < 0
    · exact bad (by rw [if_pos hb]) (by rw [if_pos hb])
    · simp only [if_neg hb] at bad ⊢
      obtain ⟨v, hv, rfl⟩ := nI_of hb
      have g1 : nI v / 100 = nI (v / 100) := pk_div (by omega) (by omega) (by omega)
      have g2 : bw_rem (nI v) 100 = nI (v % 100) := pk_rem (by omega) (by omega) (by omega)
      simp only [g1, g2, nI_ltI (show v % 100 < 2 ^ 31 by omega) (show v / 100 < 2 ^ 31 by omega), f_X6_hasBook, f_X10_isBook, z_in, z_c4] at bad ⊢
      rw [m4, d1] at bad
      rcases z_wi c 0 99 (by omega) (by omega) with f | ⟨f, h, -, hh, rfl⟩
      · rw [← l_0, ← l_99] at f
        refine bad (by rw [if_pos f]) ?_
        rw [if_pos f]
        split <;> try rfl
        split <;> try rfl
        split <;> try rfl
      · rw [← l_0, ← l_99] at f
        simp only [f, if_neg (by decide : ¬ (1 : Int32) = 0)] at bad ⊢
        by_cases hr : v % 100 < v / 100
        · refine bad (by rw [if_pos hr]) ?_
          rw [if_pos hr]
          split <;> try rfl
          split <;> try rfl
        · rw [if_neg hr] at bad ⊢
          rcases z_wi1 (nI (v % 100)) (s 4) (by omega) with i | ⟨i, j, hj, hj2⟩
          · refine bad (by rw [if_pos i]) ?_
            rw [if_pos i]
            split <;> rfl
          · rw [nI_eq (by omega) (by omega)] at hj2
            have i2 : f_X9_isWithin (nI (v / 100)) 0 (nI (s 4) - 1) = 1 := by
              rcases z_wi1 (nI (v / 100)) (s 4) (by omega) with i | ⟨i, -⟩
              · exfalso
                unfold f_X9_isWithin at i
                rw [l_0, nI_ltI (by omega) (by omega), if_neg (by omega), l_1, pk_sub (by omega), nI_ltI (by omega) (by omega), if_neg (by omega)] at i
                exact absurd i (by decide)
              · exact i
            rw [d1, i, if_neg (by decide), d5]
            by_cases hs : s 5 < 12
            · rw [l_12, nI_ltI (by omega) (by omega), if_pos hs]
              have r1 : 110 + 4 * s 5 + 1 = 111 + 4 * s 5 := by omega
              have r2 : 110 + 4 * s 5 + 2 = 112 + 4 * s 5 := by omega
              have r3 : 110 + 4 * s 5 + 3 = 113 + 4 * s 5 := by omega
              refine ⟨nI (s 5), bw_up (bw_up (bw_up (bw_up (bw_up M (33 + s 5) 0 (nI k)) (33 + s 5) 1 (nI (v / 100))) (33 + s 5) 2 (nI (v % 100))) (33 + s 5) 3 (nI h)) 25 9 (nI (s 5 + 1)), ?_⟩
              generalize hM1 : bw_up (bw_up (bw_up (bw_up (bw_up M (33 + s 5) 0 (nI k)) (33 + s 5) 1 (nI (v / 100))) (33 + s 5) 2 (nI (v % 100))) (33 + s 5) 3 (nI h)) 25 9 (nI (s 5 + 1)) = M1
              have q94 : M1 94 = M 94 := by rw [← hM1]; simp (disch := omega) only [z_up_k]
              refine ⟨bw_up (bw_up (bw_up (bw_up (bw_up M1 94 (110 + 4 * s 5) (nI k)) 94 (111 + 4 * s 5) (nI (v / 100))) 94 (112 + 4 * s 5) (nI (v % 100))) 94 (113 + 4 * s 5) (nI h)) 94 5 (nI (s 5 + 1)), ?_, ?_, ?_⟩
              · rw [← hM1]
                simp (disch := omega) only [f_X6_addBoard, d5, l_0, l_1, l_2, l_3, l_4, l_5, l_6, l_7, l_8, l_9, l_10, l_11, l_12, l_13, l_14, l_15, l_16, l_17, l_18, l_19, l_20, l_21, l_22, l_23, l_24, l_25, l_26, l_27, l_28, l_29, l_30, l_31, l_33, l_38, l_40, l_41, l_42, l_43, l_45, l_47, l_48, l_57, l_60, l_61, l_62, l_96, l_97, l_99, l_100, l_101, l_104, l_108, l_110, l_112, l_121, l_122, l_124, l_158, l_186, l_255, l_336, l_999, l_1000, l_1530, l_9999, l_10000, l_99999, z_ml, nI_add, pk_sub, pk_mul, nI_clamp, nI_ltI, nI_leI, nI_eq, z_ib, z_in, z_up, z_up_k, if_pos, if_neg, Nat.add_sub_cancel, Nat.reduceAdd, Nat.reduceMul, Option.bind_some, Option.some_bind]
              · simp (disch := omega) only [q94, m4, m5, ← l_0, ← l_1, i, i2]
                rw [if_neg (by decide), if_neg (by decide), if_neg hr]
                simp (disch := omega) only [q94, m4, m5, r1, r2, r3, l_0, l_1, l_2, l_3, l_4, l_5, l_6, l_7, l_8, l_9, l_10, l_11, l_12, l_13, l_14, l_15, l_16, l_17, l_18, l_19, l_20, l_21, l_22, l_23, l_24, l_25, l_26, l_27, l_28, l_29, l_30, l_31, l_33, l_38, l_40, l_41, l_42, l_43, l_45, l_47, l_48, l_57, l_60, l_61, l_62, l_96, l_97, l_99, l_100, l_101, l_104, l_108, l_110, l_112, l_121, l_122, l_124, l_158, l_186, l_255, l_336, l_999, l_1000, l_1530, l_9999, l_10000, l_99999, z_ml, nI_add, pk_sub, pk_mul, nI_clamp, nI_ltI, nI_leI, nI_eq, z_ib, z_in, z_up, z_up_k, if_pos, if_neg, Nat.add_sub_cancel, Nat.reduceAdd, Nat.reduceMul, Option.bind_some, Option.some_bind]
              · refine z_Inv_stk hI ?_ ⟨z_su (z_su (z_su (z_su (z_su s (110 + 4 * s 5) k) (111 + 4 * s 5) (v / 100)) (112 + 4 * s 5) (v % 100)) (113 + 4 * s 5) h) 5 (s 5 + 1), u, z_Stk_mk hS' ?_ ?_ ?_ ?_ ?_ ?_ ?_ ?_⟩ (z_32 hI ?_)
                · intro k hk
                  rw [← hM1]
                  simp (disch := omega) only [z_up_k]
                · obtain ⟨hN, hB, hD, hA⟩ := hW
                  refine ⟨?_, ?_, ?_, ?_⟩
                  · simp (disch := omega) only [z_WN, z_su_a, if_neg, if_pos]; omega
                  · intro i hi
                    simp (disch := omega) only [z_su_a, if_neg] at hi
                    have := hB i hi
                    simp (disch := omega) only [z_su_a, if_neg]; exact this
                  · intro i hi
                    simp (disch := omega) only [z_su_a, if_pos] at hi
                    by_cases g : i = s 5
                    · subst g
                      simp (disch := omega) only [z_su_a, if_neg, if_pos]; omega
                    · have := hD i (by omega)
                      simp (disch := omega) only [z_su_a, if_neg]; exact this
                  · intro i hi
                    simp (disch := omega) only [z_su_a, if_neg] at hi
                    have := hA i hi
                    simp (disch := omega) only [z_su_a, if_neg]; exact this
                · refine z_MR_up (z_MR_up (z_MR_up (z_MR_up (z_MR_up ?_))))
                  intro i h1 h2
                  rw [q94]; exact hM i h1 h2
                · simp (disch := omega) only [z_up, if_neg, q94]
                  rw [← hM1]
                  simp (disch := omega) only [z_up, if_neg]; exact hz
                · refine ⟨?_, ?_, ?_, ?_⟩
                  · simp (disch := omega) only [z_CN, z_up_k]
                    rw [← hM1]
                    simp (disch := omega) only [z_up, z_su_a, if_neg, if_pos]; exact ⟨d1, d2, d3, d4, trivial, d6, d7⟩
                  · intro i hi
                    simp (disch := omega) only [z_su_a, if_neg] at hi
                    have := c2 i hi
                    simp (disch := omega) only [z_up_k]
                    rw [← hM1]
                    simp (disch := omega) only [z_up, z_su_a, if_neg, if_pos]; exact this
                  · intro i hi
                    simp (disch := omega) only [z_su_a, if_pos] at hi
                    simp (disch := omega) only [z_up_k]
                    rw [← hM1]
                    by_cases g : i = s 5
                    · subst g
                      simp (disch := omega) only [z_up, z_su_a, if_neg, if_pos, and_self]
                    · have := c3 i (by omega)
                      simp (disch := omega) only [z_up, z_su_a, if_neg, if_pos]; exact this
                  · intro i hi
                    simp (disch := omega) only [z_su_a, if_neg] at hi
                    have := c4 i hi
                    simp (disch := omega) only [z_up_k]
                    rw [← hM1]
                    simp (disch := omega) only [z_up, z_su_a, if_neg, if_pos]; exact this
                · simp (disch := omega) only [z_su_a, if_neg]
                · rw [← hM1]; simp (disch := omega) only [z_up_k]
                · intro i hi
                  simp (disch := omega) only [z_up, if_neg, q94]
                · intro c
                  rw [← hM1]
                  simp (disch := omega) only [z_up_k, and_self]
                · rw [← hM1]; simp (disch := omega) only [z_up_k]
            · have : s 5 = 12 := by omega
              refine ⟨_, M, M, by rw [l_12, nI_ltI (by omega) (by omega), if_neg hs], ?_, z_nochange hI⟩
              rw [m4, i, i2, if_neg (by decide), if_neg (by decide), if_neg hr, if_pos]
              rw [z_c5, m5, this]; rfl
theorem op_turns : Op_turns Inv := by
  intro n M a b hn hI
  have hI' := hI
  obtain ⟨⟨s, u, hS⟩, -⟩ := hI'
  have hS' := hS
  obtain ⟨hW, hM, hz, c1, c2, c3, c4, hT⟩ := hS
  obtain ⟨w1, w2, w3, w4, w5, w6, w7, w8, w9⟩ := hW.1
  obtain ⟨d1, d2, d3, d4, d5, d6, d7⟩ := c1
  have m4 : M 94 4 = nI (s 4) := hM 4 (by omega) (by omega)
  have m5 : M 94 5 = nI (s 5) := hM 5 (by omega) (by omega)
  have m6 : M 94 6 = nI (s 6) := hM 6 (by omega) (by omega)
  have m7 : M 94 7 = nI (s 7) := hM 7 (by omega) (by omega)
  rcases z_wi1 a (s 5) (by omega) with e | ⟨e, j, hj, rfl⟩
  · refine ⟨-1000000001, M, M, ?_, ?_, z_nochange hI⟩
    · unfold f_X9_turns f_X6_hasBoard; rw [d5, if_pos e]
    · unfold f_X10_turns f_X10_isBoard; rw [z_in, z_c5, m5, if_pos e]
  · rcases z_wi b 0 5 (by omega) (by omega) with g | ⟨g, k, -, hk, rfl⟩
    · rw [← l_0, ← l_5] at g
      refine ⟨-1000000001, M, M, ?_, ?_, z_nochange hI⟩
      · unfold f_X9_turns f_X6_hasBoard f_X9_isKind; rw [d5, e, if_neg (by decide), if_pos g]
      · unfold f_X10_turns f_X10_isBoard; rw [z_in, z_in, z_c5, m5, e, if_neg (by decide), if_pos g]
    · rw [← l_0, ← l_5] at g
      have t1 : M (33 + j) 0 = nI (s (110 + 4 * j)) := (c3 j hj).1
      have t2 : M 94 (110 + 4 * j) = nI (s (110 + 4 * j)) := hM _ (by omega) (by omega)
      refine ⟨nI (s (110 + 4 * j)), bw_up M (33 + j) 0 (nI k), bw_up (bw_up M (33 + j) 0 (nI k)) 94 (110 + 4 * j) (nI k), ?_, ?_, ?_⟩
      · unfold f_X9_turns f_X6_hasBoard f_X9_isKind
        rw [d5, e, if_neg (by decide), g, if_neg (by decide)]
        simp (disch := omega) only [t1, l_0, l_1, l_2, l_3, l_4, l_5, l_6, l_7, l_8, l_9, l_10, l_11, l_12, l_13, l_14, l_15, l_16, l_17, l_18, l_19, l_20, l_21, l_22, l_23, l_24, l_25, l_26, l_27, l_28, l_29, l_30, l_31, l_33, l_38, l_40, l_41, l_42, l_43, l_45, l_47, l_48, l_57, l_60, l_61, l_62, l_96, l_97, l_99, l_100, l_101, l_104, l_108, l_110, l_112, l_121, l_122, l_124, l_158, l_186, l_255, l_336, l_999, l_1000, l_1530, l_9999, l_10000, l_99999, z_ml, nI_add, pk_sub, pk_mul, nI_clamp, nI_ltI, nI_leI, nI_eq, z_ib, z_in, z_up, z_up_k, if_pos, if_neg, Nat.add_sub_cancel, Nat.reduceAdd, Nat.reduceMul, Option.bind_some, Option.some_bind]
      · unfold f_X10_turns f_X10_isBoard f_X10_board4
        rw [z_in, z_in, z_c5, z_up_k _ _ _ _ (by omega), m5, e, if_neg (by decide), g, if_neg (by decide)]
        simp (disch := omega) only [t2, Nat.add_zero, l_0, l_1, l_2, l_3, l_4, l_5, l_6, l_7, l_8, l_9, l_10, l_11, l_12, l_13, l_14, l_15, l_16, l_17, l_18, l_19, l_20, l_21, l_22, l_23, l_24, l_25, l_26, l_27, l_28, l_29, l_30, l_31, l_33, l_38, l_40, l_41, l_42, l_43, l_45, l_47, l_48, l_57, l_60, l_61, l_62, l_96, l_97, l_99, l_100, l_101, l_104, l_108, l_110, l_112, l_121, l_122, l_124, l_158, l_186, l_255, l_336, l_999, l_1000, l_1530, l_9999, l_10000, l_99999, z_ml, nI_add, pk_sub, pk_mul, nI_clamp, nI_ltI, nI_leI, nI_eq, z_ib, z_in, z_up, z_up_k, if_pos, if_neg, Nat.add_sub_cancel, Nat.reduceAdd, Nat.reduceMul, Option.bind_some, Option.some_bind]
      · refine z_Inv_stk hI ?_ ⟨z_su s (110 + 4 * j) k, u, z_Stk_mk hS' ?_ ?_ ?_ ?_ ?_ ?_ ?_ ?_⟩ (z_32 hI ?_)
        · intro k hk
          simp (disch := omega) only [z_up_k]
        · obtain ⟨hN, hB, hD, hA⟩ := hW
          refine ⟨?_, ?_, ?_, ?_⟩
          · simp (disch := omega) only [z_WN, z_su_a, if_neg]; exact hN
          · intro i hi
            simp (disch := omega) only [z_su_a, if_neg] at hi
            have := hB i hi
            simp (disch := omega) only [z_su_a, if_neg]; exact this
          · intro i hi
            simp (disch := omega) only [z_su_a, if_neg] at hi
            have := hD i hi
            by_cases g : i = j
            · subst g
              simp (disch := omega) only [z_su_a, if_neg, if_pos]; omega
            · simp (disch := omega) only [z_su_a, if_neg]; exact this
          · intro i hi
            simp (disch := omega) only [z_su_a, if_neg] at hi
            have := hA i hi
            simp (disch := omega) only [z_su_a, if_neg]; exact this
        · refine z_MR_up ?_
          intro i h1 h2
          rw [z_up_k _ _ _ _ (by omega)]; exact hM i h1 h2
        · simp (disch := omega) only [z_up, if_neg]; exact hz
        · refine ⟨?_, ?_, ?_, ?_⟩
          · simp (disch := omega) only [z_CN, z_up, z_su_a, if_neg]; exact ⟨d1, d2, d3, d4, d5, d6, d7⟩
          · intro i hi
            simp (disch := omega) only [z_su_a, if_neg] at hi
            have := c2 i hi
            simp (disch := omega) only [z_up, z_su_a, if_neg]; exact this
          · intro i hi
            simp (disch := omega) only [z_su_a, if_neg] at hi
            have := c3 i hi
            by_cases g : i = j
            · subst g
              simp (disch := omega) only [z_up, z_su_a, if_neg, if_pos]
              exact ⟨trivial, this.2.1, this.2.2.1, this.2.2.2⟩
            · simp (disch := omega) only [z_up, z_su_a, if_neg]; exact this
          · intro i hi
            simp (disch := omega) only [z_su_a, if_neg] at hi
            have := c4 i hi
            simp (disch := omega) only [z_up, z_su_a, if_neg]; exact this
        · simp (disch := omega) only [z_su_a, if_neg]
        · simp (disch := omega) only [z_up_k]
        · intro i hi
          simp (disch := omega) only [z_up, if_neg]
        · intro c
          simp (disch := omega) only [z_up_k, and_self]
        · simp (disch := omega) only [z_up_k]
theorem op_clear : Op_clear Inv := by
  intro n M hn hI
  have hI' := hI
  obtain ⟨⟨s, u, hS⟩, -⟩ := hI'
  have hS' := hS
  obtain ⟨hW, hM, hz, c1, c2, c3, c4, hT⟩ := hS
  obtain ⟨w1, w2, w3, w4, w5, w6, w7, w8, w9⟩ := hW.1
  obtain ⟨d1, d2, d3, d4, d5, d6, d7⟩ := c1
  have m4 : M 94 4 = nI (s 4) := hM 4 (by omega) (by omega)
  have m5 : M 94 5 = nI (s 5) := hM 5 (by omega) (by omega)
  have m6 : M 94 6 = nI (s 6) := hM 6 (by omega) (by omega)
  have m7 : M 94 7 = nI (s 7) := hM 7 (by omega) (by omega)
  refine ⟨nI (s 7), bw_up M 25 11 (nI 0), bw_up (bw_up M 25 11 (nI 0)) 94 7 (nI 0), ?_, ?_, ?_⟩
  · unfold f_X9_clear; rw [z_ml, d6]; rfl
  · unfold f_X10_clear; rw [z_ml, z_c7, z_up_k _ _ _ _ (by omega), m7]; rfl
  · refine z_Inv_stk hI ?_ ⟨z_su s 7 0, u, z_Stk_mk hS' ?_ ?_ ?_ ?_ ?_ ?_ ?_ ?_⟩ (z_32 hI ?_)
    · intro k hk
      simp (disch := omega) only [z_up_k]
    · obtain ⟨hN, hB, hD, hA⟩ := hW
      refine ⟨?_, ?_, ?_, ?_⟩
      · simp (disch := omega) only [z_WN, z_su_a, if_neg, if_pos]; omega
      · intro i hi
        simp (disch := omega) only [z_su_a, if_neg] at hi
        have := hB i hi
        simp (disch := omega) only [z_su_a, if_neg]; exact this
      · intro i hi
        simp (disch := omega) only [z_su_a, if_neg] at hi
        have := hD i hi
        simp (disch := omega) only [z_su_a, if_neg]; exact this
      · intro i hi
        simp (disch := omega) only [z_su_a, if_pos] at hi
        omega
    · refine z_MR_up ?_
      intro i h1 h2
      rw [z_up_k _ _ _ _ (by omega)]; exact hM i h1 h2
    · simp (disch := omega) only [z_up, if_neg]; exact hz
    · refine ⟨?_, ?_, ?_, ?_⟩
      · simp (disch := omega) only [z_CN, z_up, z_su_a, if_neg, if_pos]; exact ⟨d1, d2, d3, d4, d5, trivial, d7⟩
      · intro i hi
        simp (disch := omega) only [z_su_a, if_neg] at hi
        have := c2 i hi
        simp (disch := omega) only [z_up, z_su_a, if_neg]; exact this
      · intro i hi
        simp (disch := omega) only [z_su_a, if_neg] at hi
        have := c3 i hi
        simp (disch := omega) only [z_up, z_su_a, if_neg]; exact this
      · intro i hi
        simp (disch := omega) only [z_su_a, if_pos] at hi
        omega
    · simp (disch := omega) only [z_su_a, if_neg]
    · simp (disch := omega) only [z_up_k]
    · intro i hi
      simp (disch := omega) only [z_up, if_neg]
    · intro c
      simp (disch := omega) only [z_up_k, and_self]
    · simp (disch := omega) only [z_up_k]
