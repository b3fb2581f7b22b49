/-! level 2: tie, seed, set, board, turns, clear -/
theorem z_C_fr {M M' : Mem} {s : Nat → Nat} (h : ∀ k, 25 ≤ k → k < 45 → M' k = M k) (w : s 5 ≤ 12) (hC : z_C M 25 s) : z_C M' 25 s := by
  obtain ⟨c1, c2, c3, c4⟩ := hC
  refine ⟨?_, ?_, ?_, ?_⟩
  · unfold z_CN; rw [h 25 (by omega) (by omega)]; exact c1
  · unfold z_CB; rw [h (25 + 1) (by omega) (by omega), h (25 + 2) (by omega) (by omega), h (25 + 3) (by omega) (by omega), h (25 + 4) (by omega) (by omega)]; exact c2
  · intro i hi; rw [h (25 + 8 + i) (by omega) (by omega)]; exact c3 i hi
  · unfold z_CA; rw [h (25 + 6) (by omega) (by omega)]; exact c4
theorem z_32 {n : Nat} {M M' : Mem} (hI : Inv n M) (h : M' 32 = M 32) : ∀ i, i < 14 → z_Lok M (M' 32 i) := by
  intro i hi; rw [h]; exact (hI.2.2.2.2.2.2.2.2.2.1 i hi).1
theorem op_tie : Op_tie Inv := by
  intro n M a b hn hb hI
  have hI' := hI
  obtain ⟨⟨s, u, hS⟩, -⟩ := hI'
  have hS' := hS
  obtain ⟨hW, hM, hz, c1, c2, c3, c4, hT⟩ := hS
  obtain ⟨w1, w2, w3, w4, w5, w6, w7, w8, w9⟩ := hW.1
  have m4 : M 94 4 = nI (s 4) := hM 4 (by omega) (by omega)
  have k0 : M 25 0 = nI (s 4) := c1.1
  have hb' : ∃ b', b' ≤ 1 ∧ b = nI b' ∧ bw_nz b = nI b' := by
    rcases hb with rfl | rfl
    · exact ⟨0, by omega, rfl, z_nz0⟩
    · exact ⟨1, by omega, rfl, z_nz1⟩
  obtain ⟨b', hb1, hb2, hb3⟩ := hb'
  rcases z_wi1 a (s 4) (by omega) with e | ⟨e, j, hj, rfl⟩
  · refine ⟨-1000000001, M, M, ?_, ?_, z_nochange hI⟩
    · unfold f_X9_tie f_X6_hasBook; rw [k0, if_pos e]
    · unfold f_X10_tie f_X10_isBook; rw [z_in, show ((4 : Int32).toNatClampNeg) = 4 from rfl, m4, if_pos e]
  · have e1 : (14 + 4 * j + 3) = 17 + 4 * j := by omega
    have t1 : M 29 j = nI (s (17 + 4 * j)) := (c2 j hj).2.2.2
    have t2 : M 94 (17 + 4 * j) = nI (s (17 + 4 * j)) := hM _ (by omega) (by omega)
    have t3 := (hW.2.1 j hj).2.2.2.2.2
    refine ⟨if s (17 + 4 * j) = b' then 0 else 1, bw_up M 29 j (nI b'), bw_up (bw_up M 29 j (nI b')) 94 (17 + 4 * j) (nI b'), ?_, ?_, ?_⟩
    · unfold f_X9_tie f_X6_hasBook
      rw [k0, e, if_neg (by decide), hb3, hb2]
      simp (disch := omega) only [z_ml, nI_clamp, z_ib, t1, nI_eq]
      by_cases g : s (17 + 4 * j) = b' <;> simp [g]
    · unfold f_X10_tie f_X10_isBook
      have k1 : (if b = 0 then (0 : Int32) else 1) = nI b' := by
        rcases hb with rfl | rfl
        · rcases (by omega : b' = 0 ∨ b' = 1) with rfl | rfl
          · rfl
          · exact absurd hb2 (by decide)
        · rcases (by omega : b' = 0 ∨ b' = 1) with rfl | rfl
          · exact absurd hb2 (by decide)
          · rfl
      rw [k1]
      rw [z_in, show ((4 : Int32).toNatClampNeg) = 4 from rfl, z_up_k _ _ _ _ (by omega), m4, e, if_neg (by decide)]
      simp (disch := omega) only [e1, t2, l_0, l_1, l_2, l_3, l_4, l_5, l_6, l_7, l_8, l_9, l_10, l_11, l_12, l_13, l_14, l_15, l_16, l_17, l_18, l_19, l_20, l_21, l_22, l_23, l_24, l_25, l_26, l_27, l_28, l_29, l_30, l_31, l_33, l_38, l_40, l_41, l_42, l_43, l_45, l_47, l_48, l_57, l_60, l_61, l_62, l_96, l_97, l_99, l_100, l_101, l_104, l_108, l_110, l_112, l_121, l_122, l_124, l_158, l_186, l_255, l_336, l_999, l_1000, l_1530, l_9999, l_10000, l_99999, z_ml, nI_add, pk_sub, pk_mul, nI_clamp, nI_ltI, nI_leI, nI_eq, z_ib, z_in, z_up, z_up_k, if_pos, if_neg, ite_true, ite_false, and_self, and_true, true_and, and_false, false_and, Nat.add_sub_cancel, Nat.reduceAdd, Nat.reduceMul, Option.bind_some, eq_self]
    · refine z_Inv_stk hI ?_ ⟨z_su s (17 + 4 * j) b', u, z_Stk_mk hS' ?_ ?_ ?_ ?_ ?_ ?_ ?_ ?_⟩ (z_32 hI ?_)
      · intro k hk
        simp (disch := omega) only [z_up_k]
      · obtain ⟨hN, hB, hD, hA⟩ := hW
        refine ⟨?_, ?_, ?_, ?_⟩
        · simp (disch := omega) only [z_WN, z_su_a, if_pos, if_neg, ite_true, ite_false, and_self, and_true, true_and, and_false, false_and]; exact hN
        · intro i hi
          simp (disch := omega) only [z_su_a, if_pos, if_neg, ite_true, ite_false, and_self, and_true, true_and, and_false, false_and] at hi
          have := hB i hi
          by_cases g : i = j
          · subst g
            simp (disch := omega) only [z_su_a, if_pos, if_neg, ite_true, ite_false, and_self, and_true, true_and, and_false, false_and]; omega
          · simp (disch := omega) only [z_su_a, if_pos, if_neg, ite_true, ite_false, and_self, and_true, true_and, and_false, false_and]; omega
        · intro i hi
          simp (disch := omega) only [z_su_a, if_pos, if_neg, ite_true, ite_false, and_self, and_true, true_and, and_false, false_and] at hi
          have := hD i hi
          simp (disch := omega) only [z_su_a, if_pos, if_neg, ite_true, ite_false, and_self, and_true, true_and, and_false, false_and]; exact this
        · intro i hi
          simp (disch := omega) only [z_su_a, if_pos, if_neg, ite_true, ite_false, and_self, and_true, true_and, and_false, false_and] at hi
          have := hA i hi
          simp (disch := omega) only [z_su_a, if_pos, if_neg, ite_true, ite_false, and_self, and_true, true_and, and_false, false_and]; exact this
      · refine z_MR_up ?_
        intro i h1 h2
        rw [z_up_k _ _ _ _ (by omega)]; exact hM i h1 h2
      · simp (disch := omega) only [z_up, if_pos, if_neg, ite_true, ite_false, and_self, and_true, true_and, and_false, false_and]; exact hz
      · refine ⟨?_, ?_, ?_, ?_⟩
        · simp (disch := omega) only [z_CN, z_up, z_su_a, if_pos, if_neg, ite_true, ite_false, and_self, and_true, true_and, and_false, false_and]; exact c1
        · intro i hi
          simp (disch := omega) only [z_su_a, if_pos, if_neg, ite_true, ite_false, and_self, and_true, true_and, and_false, false_and] at hi
          have := c2 i hi
          by_cases g : i = j
          · subst g
            simp (disch := omega) only [z_up, z_su_a, if_pos, if_neg, ite_true, ite_false, and_self, and_true, true_and, and_false, false_and]
            exact ⟨this.1, this.2.1, this.2.2.1⟩
          · simp (disch := omega) only [z_up, z_su_a, if_pos, if_neg, ite_true, ite_false, and_self, and_true, true_and, and_false, false_and]; exact this
        · intro i hi
          simp (disch := omega) only [z_su_a, if_pos, if_neg, ite_true, ite_false, and_self, and_true, true_and, and_false, false_and] at hi
          have := c3 i hi
          simp (disch := omega) only [z_up, z_su_a, if_pos, if_neg, ite_true, ite_false, and_self, and_true, true_and, and_false, false_and]; exact this
        · intro i hi
          simp (disch := omega) only [z_su_a, if_pos, if_neg, ite_true, ite_false, and_self, and_true, true_and, and_false, false_and] at hi
          have := c4 i hi
          simp (disch := omega) only [z_up, z_su_a, if_pos, if_neg, ite_true, ite_false, and_self, and_true, true_and, and_false, false_and]; exact this
      · simp (disch := omega) only [z_su_a, if_pos, if_neg, ite_true, ite_false, and_self, and_true, true_and, and_false, false_and]
      · simp (disch := omega) only [z_up_k]
      · intro i hi
        simp (disch := omega) only [z_up, if_pos, if_neg, ite_true, ite_false, and_self, and_true, true_and, and_false, false_and]
      · intro c
        simp (disch := omega) only [z_up_k, and_self]
      · simp (disch := omega) only [z_up_k]
theorem op_seed : Op_seed Inv := by
  intro n M a hn hI
  have hI' := hI
  obtain ⟨⟨s, u, hS⟩, -⟩ := hI'
  have hS' := hS
  obtain ⟨hW, hM, hz, c1, c2, c3, c4, hT⟩ := hS
  obtain ⟨w1, w2, w3, w4, w5, w6, w7, w8, w9⟩ := hW.1
  refine ⟨M 25 8, bw_up M 25 8 a, bw_up (bw_up M 25 8 a) 94 0 a, rfl, ?_, ?_⟩
  · unfold f_X10_seed
    rw [show ((0 : Int32).toNatClampNeg) = 0 from rfl, z_ml, z_up_k _ _ _ _ (by omega), hz]
  · refine z_Inv_stk hI ?_ ⟨s, u, z_Stk_mk hS' hW ?_ ?_ ?_ rfl ?_ ?_ ?_⟩ (z_32 hI ?_)
    · intro k hk
      simp (disch := omega) only [z_up_k]
    · intro i h1 h2
      simp (disch := omega) only [z_up, if_pos, if_neg, ite_true, ite_false, and_self, and_true, true_and, and_false, false_and]; exact hM i h1 h2
    · simp (disch := omega) only [z_up, if_pos, if_neg, ite_true, ite_false, and_self, and_true, true_and, and_false, false_and]
    · refine ⟨?_, ?_, ?_, ?_⟩
      · simp (disch := omega) only [z_CN, z_up, if_pos, if_neg, ite_true, ite_false, and_self, and_true, true_and, and_false, false_and]; exact c1
      · simp (disch := omega) only [z_CB, z_up_k]; exact c2
      · intro i hi
        simp (disch := omega) only [z_up_k]; exact c3 i hi
      · simp (disch := omega) only [z_CA, z_up_k]; exact c4
    · simp (disch := omega) only [z_up_k]
    · intro i hi
      simp (disch := omega) only [z_up, if_pos, if_neg, ite_true, ite_false, and_self, and_true, true_and, and_false, false_and]
    · intro c
      simp (disch := omega) only [z_up_k, and_self]
    · simp (disch := omega) only [z_up_k]
/-- one of the first numbers is told anew -/
theorem z_setn {n : Nat} {M : Mem} {s : Nat → Nat} {u : Nat → TU} (hI : Inv n M) (hS : z_Stk M 25 94 s u) (k v : Nat) (hk : k = 1 ∨ k = 2 ∨ k = 3) (hv : v ≤ 999) (hv2 : k = 2 → v ≤ 9) (hv3 : k ≠ 2 → 1 ≤ v) : Inv (n + 1) (bw_up (bw_up M 25 (k + 4) (nI v)) 94 k (nI v)) := by
  have hS' := hS
  obtain ⟨hW, hM, hz, c1, c2, c3, c4, hT⟩ := hS
  refine z_Inv_stk hI ?_ ⟨z_su s k v, u, z_Stk_mk hS' ?_ ?_ ?_ ?_ ?_ ?_ ?_ ?_⟩ (z_32 hI ?_)
  · intro k hk
    simp (disch := omega) only [z_up_k]
  · obtain ⟨hN, hB, hD, hA⟩ := hW
    refine ⟨?_, ?_, ?_, ?_⟩
    · obtain ⟨w1, w2, w3, w4, w5, w6, w7, w8, w9⟩ := hN
      rcases hk with rfl | rfl | rfl <;> (simp (disch := omega) only [z_WN, z_su_a, if_pos, if_neg, ite_true, ite_false, and_self, and_true, true_and, and_false, false_and]; omega)
    · intro i hi
      simp (disch := omega) only [z_su_a, if_pos, if_neg, ite_true, ite_false, and_self, and_true, true_and, and_false, false_and] at hi ⊢
      exact hB i hi
    · intro i hi
      simp (disch := omega) only [z_su_a, if_pos, if_neg, ite_true, ite_false, and_self, and_true, true_and, and_false, false_and] at hi ⊢
      exact hD i hi
    · intro i hi
      simp (disch := omega) only [z_su_a, if_pos, if_neg, ite_true, ite_false, and_self, and_true, true_and, and_false, false_and] at hi ⊢
      exact hA i hi
  · refine z_MR_up ?_
    intro i h1 h2
    rw [z_up_k _ _ _ _ (by omega)]; exact hM i h1 h2
  · simp (disch := omega) only [z_up, if_pos, if_neg, ite_true, ite_false, and_self, and_true, true_and, and_false, false_and]; exact hz
  · refine ⟨?_, ?_, ?_, ?_⟩
    · obtain ⟨d1, d2, d3, d4, d5, d6, d7⟩ := c1
      rcases hk with rfl | rfl | rfl
      · simp (disch := omega) only [z_CN, z_up, z_su_a, if_pos, if_neg, ite_true, ite_false, and_self, and_true, true_and, and_false, false_and]; exact ⟨d1, d3, d4, d5, d6, d7⟩
      · simp (disch := omega) only [z_CN, z_up, z_su_a, if_pos, if_neg, ite_true, ite_false, and_self, and_true, true_and, and_false, false_and]; exact ⟨d1, d2, d4, d5, d6, d7⟩
      · simp (disch := omega) only [z_CN, z_up, z_su_a, if_pos, if_neg, ite_true, ite_false, and_self, and_true, true_and, and_false, false_and]; exact ⟨d1, d2, d3, d5, d6, d7⟩
    · intro i hi
      simp (disch := omega) only [z_su_a, z_up_k, if_pos, if_neg, ite_true, ite_false, and_self, and_true, true_and, and_false, false_and] at hi ⊢
      exact c2 i hi
    · intro i hi
      simp (disch := omega) only [z_su_a, if_pos, if_neg, ite_true, ite_false, and_self, and_true, true_and, and_false, false_and] at hi
      have := hW.1.2.1
      simp (disch := omega) only [z_su_a, z_up_k, if_pos, if_neg, ite_true, ite_false, and_self, and_true, true_and, and_false, false_and]
      exact c3 i hi
    · intro i hi
      simp (disch := omega) only [z_su_a, z_up_k, if_pos, if_neg, ite_true, ite_false, and_self, and_true, true_and, and_false, false_and] at hi ⊢
      exact c4 i hi
  · simp (disch := omega) only [z_su_a, if_pos, if_neg, ite_true, ite_false, and_self, and_true, true_and, and_false, false_and]
  · simp (disch := omega) only [z_up_k]
  · intro i hi
    simp (disch := omega) only [z_up, if_pos, if_neg, ite_true, ite_false, and_self, and_true, true_and, and_false, false_and]
  · intro c
    simp (disch := omega) only [z_up_k, and_self]
  · simp (disch := omega) only [z_up_k]
theorem op_set : Op_set Inv := by
  intro n M a b hn hI
  have hI' := hI
  obtain ⟨⟨s, u, hS⟩, -⟩ := hI'
  have hS' := hS
  obtain ⟨hW, hM, hz, c1, c2, c3, c4, hT⟩ := hS
  obtain ⟨w1, w2, w3, w4, w5, w6, w7, w8, w9⟩ := hW.1
  obtain ⟨d1, d2, d3, d4, d5, d6, d7⟩ := c1
  have m1 : M 94 1 = nI (s 1) := hM 1 (by omega) (by omega)
  have m2 : M 94 2 = nI (s 2) := hM 2 (by omega) (by omega)
  have m3 : M 94 3 = nI (s 3) := hM 3 (by omega) (by omega)
  have bad : f_X9_set M a b = some (-1000000001, M) → f_X10_set M a b = some (-1000000001, M) → ∃ (r : Int32) (M1 M2 : Mem), (f_X9_set M a b = some (r, M1)) ∧ (f_X10_set M1 a b = some (r, M2)) ∧ Inv (n + 1) M2 :=
    fun h1 h2 => ⟨_, M, M, h1, h2, z_nochange hI⟩
  rcases z_wi a 0 2 (by omega) (by omega) with e | ⟨e, k, -, hk, rfl⟩
  · rw [← l_0, ← l_2] at e
    have n0 : ¬ a = 0 := by rintro rfl; exact absurd e (by decide)
    have n1 : ¬ a = 1 := by rintro rfl; exact absurd e (by decide)
    have n2 : ¬ a = 2 := by rintro rfl; exact absurd e (by decide)
    refine bad ?_ ?_
    · unfold f_X9_set f_X9_set_J34 f_X9_set_J68; rw [if_neg n0, if_neg n1, if_neg n2]
    · unfold f_X10_set; rw [z_in, if_pos e]
  · have k1 := z_wi b 1 999 (by omega) (by omega)
    have k2 := z_wi b 0 9 (by omega) (by omega)
    rw [← l_1, ← l_999] at k1
    rw [← l_0, ← l_9] at k2
    rcases (by omega : k = 0 ∨ k = 1 ∨ k = 2) with rfl | rfl | rfl
    · have x : ∀ M1 : Mem, f_X10_set M1 (nI 0) b = f_X10_set_J33 M1 (nI 0) b b 1 999 := fun _ => rfl
      have y : f_X9_set M (nI 0) b = if (f_X9_isWithin b (1 : Int32) (999 : Int32)) = 0 then some (-1000000001, M) else some (M 25 5, bw_up M 25 5 b) := rfl
      rcases k1 with g | ⟨g, v, v1, v2, rfl⟩
      · refine bad (by rw [y, if_pos g]) ?_
        rw [x]; unfold f_X10_set_J33; rw [z_in, if_pos g]
      · refine ⟨nI (s 1), bw_up M 25 5 (nI v), bw_up (bw_up M 25 5 (nI v)) 94 1 (nI v), ?_, ?_, z_setn hI hS' 1 v (by omega) (by omega) (by omega) (by omega)⟩
        · rw [y, g, if_neg (by decide), d2]
        · rw [x]; unfold f_X10_set_J33
          rw [z_in, g, if_neg (by decide)]
          simp (disch := omega) only [m1, l_0, l_1, l_2, l_3, l_4, l_5, l_6, l_7, l_8, l_9, l_10, l_11, l_12, l_13, l_14, l_15, l_16, l_17, l_18, l_19, l_20, l_21, l_22, l_23, l_24, l_25, l_26, l_27, l_28, l_29, l_30, l_31, l_33, l_38, l_40, l_41, l_42, l_43, l_45, l_47, l_48, l_57, l_60, l_61, l_62, l_96, l_97, l_99, l_100, l_101, l_104, l_108, l_110, l_112, l_121, l_122, l_124, l_158, l_186, l_255, l_336, l_999, l_1000, l_1530, l_9999, l_10000, l_99999, z_ml, nI_add, pk_sub, pk_mul, nI_clamp, nI_ltI, nI_leI, nI_eq, z_ib, z_in, z_up, z_up_k, if_pos, if_neg, ite_true, ite_false, and_self, and_true, true_and, and_false, false_and, Nat.add_sub_cancel, Nat.reduceAdd, Nat.reduceMul, Option.bind_some, eq_self]
    · have x : ∀ M1 : Mem, f_X10_set M1 (nI 1) b = f_X10_set_J33 M1 (nI 1) b b 0 9 := fun _ => rfl
      have y : f_X9_set M (nI 1) b = if (f_X9_isWithin b (0 : Int32) (9 : Int32)) = 0 then some (-1000000001, M) else some (M 25 6, bw_up M 25 6 b) := rfl
      rcases k2 with g | ⟨g, v, v1, v2, rfl⟩
      · refine bad (by rw [y, if_pos g]) ?_
        rw [x]; unfold f_X10_set_J33; rw [z_in, if_pos g]
      · refine ⟨nI (s 2), bw_up M 25 6 (nI v), bw_up (bw_up M 25 6 (nI v)) 94 2 (nI v), ?_, ?_, z_setn hI hS' 2 v (by omega) (by omega) (by omega) (by omega)⟩
        · rw [y, g, if_neg (by decide), d3]
        · rw [x]; unfold f_X10_set_J33
          rw [z_in, g, if_neg (by decide)]
          simp (disch := omega) only [m2, l_0, l_1, l_2, l_3, l_4, l_5, l_6, l_7, l_8, l_9, l_10, l_11, l_12, l_13, l_14, l_15, l_16, l_17, l_18, l_19, l_20, l_21, l_22, l_23, l_24, l_25, l_26, l_27, l_28, l_29, l_30, l_31, l_33, l_38, l_40, l_41, l_42, l_43, l_45, l_47, l_48, l_57, l_60, l_61, l_62, l_96, l_97, l_99, l_100, l_101, l_104, l_108, l_110, l_112, l_121, l_122, l_124, l_158, l_186, l_255, l_336, l_999, l_1000, l_1530, l_9999, l_10000, l_99999, z_ml, nI_add, pk_sub, pk_mul, nI_clamp, nI_ltI, nI_leI, nI_eq, z_ib, z_in, z_up, z_up_k, if_pos, if_neg, ite_true, ite_false, and_self, and_true, true_and, and_false, false_and, Nat.add_sub_cancel, Nat.reduceAdd, Nat.reduceMul, Option.bind_some, eq_self]
    · have x : ∀ M1 : Mem, f_X10_set M1 (nI 2) b = f_X10_set_J33 M1 (nI 2) b b 1 999 := fun _ => rfl
      have y : f_X9_set M (nI 2) b = if (f_X9_isWithin b (1 : Int32) (999 : Int32)) = 0 then some (-1000000001, M) else some (M 25 7, bw_up M 25 7 b) := rfl
      rcases k1 with g | ⟨g, v, v1, v2, rfl⟩
      · refine bad (by rw [y, if_pos g]) ?_
        rw [x]; unfold f_X10_set_J33; rw [z_in, if_pos g]
      · refine ⟨nI (s 3), bw_up M 25 7 (nI v), bw_up (bw_up M 25 7 (nI v)) 94 3 (nI v), ?_, ?_, z_setn hI hS' 3 v (by omega) (by omega) (by omega) (by omega)⟩
        · rw [y, g, if_neg (by decide), d4]
        · rw [x]; unfold f_X10_set_J33
          rw [z_in, g, if_neg (by decide)]
          simp (disch := omega) only [m3, l_0, l_1, l_2, l_3, l_4, l_5, l_6, l_7, l_8, l_9, l_10, l_11, l_12, l_13, l_14, l_15, l_16, l_17, l_18, l_19, l_20, l_21, l_22, l_23, l_24, l_25, l_26, l_27, l_28, l_29, l_30, l_31, l_33, l_38, l_40, l_41, l_42, l_43, l_45, l_47, l_48, l_57, l_60, l_61, l_62, l_96, l_97, l_99, l_100, l_101, l_104, l_108, l_110, l_112, l_121, l_122, l_124, l_158, l_186, l_255, l_336, l_999, l_1000, l_1530, l_9999, l_10000, l_99999, z_ml, nI_add, pk_sub, pk_mul, nI_clamp, nI_ltI, nI_leI, nI_eq, z_ib, z_in, z_up, z_up_k, if_pos, if_neg, ite_true, ite_false, and_self, and_true, true_and, and_false, false_and, Nat.add_sub_cancel, Nat.reduceAdd, Nat.reduceMul, Option.bind_some, eq_self]
