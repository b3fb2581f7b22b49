/-! level 2: board, turns, drop, clear, allow, deal -/
theorem z_c4 : (4 : Int32).toNatClampNeg = 4 := rfl
theorem z_c5 : (5 : Int32).toNatClampNeg = 5 := rfl
theorem z_c6 : (6 : Int32).toNatClampNeg = 6 := rfl
theorem z_c7 : (7 : Int32).toNatClampNeg = 7 := rfl
/-- a board more -/
theorem z_bdI {n : Nat} {M M1 : Mem} {s : Nat → Nat} {u : Nat → TU} {k f l h : Nat} (hI : Inv n M) (hS : z_Stk M 25 94 s u) (hs : s 5 < 12) (hk : k ≤ 5) (hf : f ≤ l) (hl : l < s 4) (hh : h ≤ 99) (hM1 : bw_up (bw_up (bw_up (bw_up (bw_up M (33 + s 5) 0 (nI k)) (33 + s 5) 1 (nI f)) (33 + s 5) 2 (nI l)) (33 + s 5) 3 (nI h)) 25 9 (nI (s 5 + 1)) = M1) : Inv (n + 1) (bw_up (bw_up (bw_up (bw_up (bw_up M1 94 (110 + 4 * s 5) (nI k)) 94 (111 + 4 * s 5) (nI f)) 94 (112 + 4 * s 5) (nI l)) 94 (113 + 4 * s 5) (nI h)) 94 5 (nI (s 5 + 1))) := by
  have hS' := hS
  obtain ⟨hW, hM, hz, c1, c2, c3, c4, hT⟩ := hS
  obtain ⟨w1, w2, w3, w4, w5, w6, w7, w8, w9⟩ := hW.1
  have q94 : M1 94 = M 94 := by rw [← hM1]; simp (disch := omega) only [z_up_k]
  have qo : ∀ b, b ≠ 25 → b ≠ 33 + s 5 → M1 b = M b := by
    intro b h1 h2; rw [← hM1]; simp (disch := omega) only [z_up_k]
  have q25 : ∀ x, x ≠ 9 → M1 25 x = M 25 x := by
    intro x h1; rw [← hM1, z_up_i _ _ _ _ h1]; simp (disch := omega) only [z_up_k]
  have q9 : M1 25 9 = nI (s 5 + 1) := by rw [← hM1, z_up_s]
  have v0 : M1 (33 + s 5) 0 = nI k := by rw [← hM1]; simp (disch := omega) only [z_up, if_pos, if_neg, ite_true, ite_false, and_self, and_true, true_and, and_false, false_and]
  have v1 : M1 (33 + s 5) 1 = nI f := by rw [← hM1]; simp (disch := omega) only [z_up, if_pos, if_neg, ite_true, ite_false, and_self, and_true, true_and, and_false, false_and]
  have v2 : M1 (33 + s 5) 2 = nI l := by rw [← hM1]; simp (disch := omega) only [z_up, if_pos, if_neg, ite_true, ite_false, and_self, and_true, true_and, and_false, false_and]
  have v3 : M1 (33 + s 5) 3 = nI h := by rw [← hM1]; simp (disch := omega) only [z_up, if_pos, if_neg, ite_true, ite_false, and_self, and_true, true_and, and_false, false_and]
  obtain ⟨s', hs'⟩ : ∃ s', s' = z_su (z_su (z_su (z_su (z_su s (110 + 4 * s 5) k) (111 + 4 * s 5) f) (112 + 4 * s 5) l) (113 + 4 * s 5) h) 5 (s 5 + 1) := ⟨_, rfl⟩
  have so : ∀ i, i ≠ 5 → i < 110 + 4 * s 5 ∨ 114 + 4 * s 5 ≤ i → s' i = s i := by
    intro i h1 h2; rw [hs']; simp (disch := omega) only [z_su_a, if_pos, if_neg, ite_true, ite_false, and_self, and_true, true_and, and_false, false_and]
  have s5 : s' 5 = s 5 + 1 := by rw [hs', z_su_a, if_pos rfl]
  have t0 : s' (110 + 4 * s 5) = k := by rw [hs']; simp (disch := omega) only [z_su_a, if_pos, if_neg, ite_true, ite_false, and_self, and_true, true_and, and_false, false_and]
  have t1 : s' (111 + 4 * s 5) = f := by rw [hs']; simp (disch := omega) only [z_su_a, if_pos, if_neg, ite_true, ite_false, and_self, and_true, true_and, and_false, false_and]
  have t2 : s' (112 + 4 * s 5) = l := by rw [hs']; simp (disch := omega) only [z_su_a, if_pos, if_neg, ite_true, ite_false, and_self, and_true, true_and, and_false, false_and]
  have t3 : s' (113 + 4 * s 5) = h := by rw [hs']; simp (disch := omega) only [z_su_a, if_pos, if_neg, ite_true, ite_false, and_self, and_true, true_and, and_false, false_and]
  have MR : z_MR (bw_up (bw_up (bw_up (bw_up (bw_up M1 94 (110 + 4 * s 5) (nI k)) 94 (111 + 4 * s 5) (nI f)) 94 (112 + 4 * s 5) (nI l)) 94 (113 + 4 * s 5) (nI h)) 94 5 (nI (s 5 + 1))) 94 s' := by
    rw [hs']
    refine z_MR_up (z_MR_up (z_MR_up (z_MR_up (z_MR_up ?_))))
    intro i h1 h2
    rw [q94]; exact hM i h1 h2
  generalize hM2 : bw_up (bw_up (bw_up (bw_up (bw_up M1 94 (110 + 4 * s 5) (nI k)) 94 (111 + 4 * s 5) (nI f)) 94 (112 + 4 * s 5) (nI l)) 94 (113 + 4 * s 5) (nI h)) 94 5 (nI (s 5 + 1)) = M2 at MR ⊢
  have po : ∀ b, b ≠ 94 → M2 b = M1 b := by
    intro b h1; rw [← hM2]; simp (disch := omega) only [z_up_k]
  have p94 : ∀ i, i = 0 ∨ 158 ≤ i → M2 94 i = M 94 i := by
    intro i hi; rw [← hM2]; simp (disch := omega) only [z_up, if_pos, if_neg, ite_true, ite_false, and_self, and_true, true_and, and_false, false_and]; rw [q94]
  clear hM2 hM1 hs'
  refine z_Inv_stk hI ?_ ⟨s', u, z_Stk_mk hS' ?_ MR ?_ ?_ ?_ ?_ ?_ ?_⟩ (z_32 hI ?_)
  · intro b hb
    rw [po b (by omega), qo b (by omega) (by omega)]
  · obtain ⟨hN, hB, hD, hA⟩ := hW
    refine ⟨?_, ?_, ?_, ?_⟩
    · unfold z_WN
      rw [s5, so 4 (by omega) (by omega), so 6 (by omega) (by omega), so 7 (by omega) (by omega), so 1 (by omega) (by omega), so 2 (by omega) (by omega), so 3 (by omega) (by omega)]
      omega
    · intro i hi
      rw [so 4 (by omega) (by omega)] at hi
      have := hB i hi
      rw [so _ (by omega) (by omega), so _ (by omega) (by omega), so _ (by omega) (by omega), so _ (by omega) (by omega)]
      exact this
    · intro i hi
      rw [s5] at hi
      rw [so 4 (by omega) (by omega)]
      by_cases g : i = s 5
      · subst g
        rw [t0, t1, t2, t3]; exact ⟨hk, hf, hl, hh⟩
      · have := hD i (by omega)
        rw [so _ (by omega) (by omega), so _ (by omega) (by omega), so _ (by omega) (by omega), so _ (by omega) (by omega)]
        exact this
    · intro i hi
      rw [so 7 (by omega) (by omega)] at hi
      have := hA i hi
      rw [so _ (by omega) (by omega)]
      exact this
  · rw [po _ (by omega), q25 _ (by omega), p94 0 (by omega)]; exact hz
  · refine ⟨?_, ?_, ?_, ?_⟩
    · unfold z_CN
      rw [po 25 (by omega), q9, q25 0 (by omega), q25 5 (by omega), q25 6 (by omega), q25 7 (by omega), q25 11 (by omega), q25 13 (by omega), s5, so 4 (by omega) (by omega), so 6 (by omega) (by omega), so 7 (by omega) (by omega), so 1 (by omega) (by omega), so 2 (by omega) (by omega), so 3 (by omega) (by omega)]
      obtain ⟨d1, d2, d3, d4, d5, d6, d7⟩ := c1
      exact ⟨d1, d2, d3, d4, rfl, d6, d7⟩
    · intro i hi
      rw [so 4 (by omega) (by omega)] at hi
      have := c2 i hi
      rw [so _ (by omega) (by omega), so _ (by omega) (by omega), so _ (by omega) (by omega), so _ (by omega) (by omega), po _ (by omega), po _ (by omega), po _ (by omega), po _ (by omega), qo _ (by omega) (by omega), qo _ (by omega) (by omega), qo _ (by omega) (by omega), qo _ (by omega) (by omega)]
      exact this
    · intro i hi
      rw [s5] at hi
      rw [po _ (by omega)]
      by_cases g : i = s 5
      · subst g
        rw [t0, t1, t2, t3, show 25 + 8 + s 5 = 33 + s 5 by omega]
        exact ⟨v0, v1, v2, v3⟩
      · have := c3 i (by omega)
        rw [so _ (by omega) (by omega), so _ (by omega) (by omega), so _ (by omega) (by omega), so _ (by omega) (by omega), qo _ (by omega) (by omega)]
        exact this
    · intro i hi
      rw [so 7 (by omega) (by omega)] at hi
      have := c4 i hi
      rw [so _ (by omega) (by omega), po _ (by omega), qo _ (by omega) (by omega)]
      exact this
  · exact so 6 (by omega) (by omega)
  · rw [po _ (by omega), qo _ (by omega) (by omega)]
  · intro i hi; exact p94 i (by omega)
  · intro c
    rw [po _ (by omega), po _ (by omega), po _ (by omega), qo _ (by omega) (by omega), qo _ (by omega) (by omega), qo _ (by omega) (by omega)]
    exact ⟨rfl, rfl, rfl⟩
  · rw [po _ (by omega), qo _ (by omega) (by omega)]
set_option maxHeartbeats 4000000 in
theorem op_board : Op_board Inv := by
  intro n M a b c hn hI
  have hI' := hI
  obtain ⟨⟨s, u, hS⟩, -⟩ := hI'
  have hS' := hS
  obtain ⟨hW, hM, hz, c1, c2, c3, c4, hT⟩ := hS
  obtain ⟨w1, w2, w3, w4, w5, w6, w7, w8, w9⟩ := hW.1
  obtain ⟨d1, d2, d3, d4, d5, d6, d7⟩ := c1
  have m4 : M 94 4 = nI (s 4) := hM 4 (by omega) (by omega)
  have m5 : M 94 5 = nI (s 5) := hM 5 (by omega) (by omega)
  have m6 : M 94 6 = nI (s 6) := hM 6 (by omega) (by omega)
  have m7 : M 94 7 = nI (s 7) := hM 7 (by omega) (by omega)
  have bad : f_X9_board M a b c = some (-1000000001, M) → f_X10_board M a b c = some (-1000000001, M) → ∃ (r : Int32) (M1 M2 : Mem), (f_X9_board M a b c = some (r, M1)) ∧ (f_X10_board M1 a b c = some (r, M2)) ∧ Inv (n + 1) M2 :=
    fun h1 h2 => ⟨_, M, M, h1, h2, z_nochange hI⟩
  rcases z_wi a 0 5 (by omega) (by omega) with e | ⟨e, k, -, hk, rfl⟩
  · rw [← l_0, ← l_5] at e
    exact bad (by unfold f_X9_board f_X9_isKind; rw [if_pos e]) (by unfold f_X10_board; rw [z_in, if_pos e])
  · rw [← l_0, ← l_5] at e
    by_cases hb : b < 0
    · exact bad (by unfold f_X9_board f_X9_isKind; rw [e, if_neg (by decide), if_pos hb]) (by unfold f_X10_board; rw [z_in, e, if_neg (by decide), if_pos hb])
    · obtain ⟨v, hv, rfl⟩ := nI_of hb
      have g1 : nI v / nI 100 = nI (v / 100) := pk_div (by omega) (by omega) (by omega)
      have g2 : bw_rem (nI v) (nI 100) = nI (v % 100) := pk_rem (by omega) (by omega) (by omega)
      rw [← l_100] at g1 g2
      rcases z_wi c 0 99 (by omega) (by omega) with f | ⟨f, h, -, hh, rfl⟩
      · rw [← l_0, ← l_99] at f
        refine bad (by unfold f_X9_board f_X9_isKind; rw [e, if_neg (by decide), if_neg hb, if_pos f]) ?_
        unfold f_X10_board; rw [z_in, e, if_neg (by decide), if_neg hb]
        split
        · rfl
        · split
          · rfl
          · split
            · rfl
            · rw [z_in, if_pos f]
      · rw [← l_0, ← l_99] at f
        by_cases hr : v % 100 < v / 100
        · refine bad (by unfold f_X9_board f_X9_isKind; rw [e, if_neg (by decide), if_neg hb, f, if_neg (by decide), g1, g2, if_pos (nI_lt hr (by omega))]) ?_
          unfold f_X10_board; rw [z_in, e, if_neg (by decide), if_neg hb]
          split
          · rfl
          · split
            · rfl
            · rw [g1, g2, if_pos (nI_lt hr (by omega))]
        · have hr' : ¬ nI (v % 100) < nI (v / 100) := nI_nlt (by omega) (by omega)
          rcases z_wi1 (nI (v % 100)) (s 4) (by omega) with i | ⟨i, j, hj, hj2⟩
          · refine bad (by unfold f_X9_board f_X9_isKind f_X6_hasBook; rw [e, if_neg (by decide), if_neg hb, f, if_neg (by decide), g1, g2, if_neg hr', d1, if_pos i]) ?_
            unfold f_X10_board; rw [z_in, e, if_neg (by decide), if_neg hb]
            split
            · rfl
            · unfold f_X10_isBook
              rw [g2, z_in, z_c4, m4, if_pos i]
          · rw [nI_eq (by omega) (by omega)] at hj2
            have i2 : f_X9_isWithin (nI (v / 100)) 0 (nI (s 4) - 1) = 1 := by
              rcases z_wi1 (nI (v / 100)) (s 4) (by omega) with i | ⟨i, -⟩
              · exfalso
                rw [l_1, pk_sub (by omega), l_0, z_wiN (by omega) (by omega) (by omega), if_pos (by omega)] at i
                exact absurd i (by decide)
              · exact i
            unfold f_X9_board f_X9_isKind f_X6_hasBook
            rw [e, if_neg (by decide), if_neg hb, f, if_neg (by decide), g1, g2, if_neg hr', d1, i, if_neg (by decide), d5]
            have ml : ∀ (M1 : Mem) (X : Option (Int32 × Mem)), M1 94 = M 94 → (f_X10_board M1 (nI k) (nI v) (nI h) = X ↔ (if (M1 94 (5 : Int32).toNatClampNeg) = (12 : Int32) then some ((-1000000003 : Int32), M1) else bw_ml ((110 : Int32) + ((4 : Int32) * (M1 94 (5 : Int32).toNatClampNeg))) fun x12 => if bw_ib x12 1530 = true then bw_ml (bw_up M1 94 x12.toNatClampNeg (nI k)) fun M14 => if bw_ib (x12 + (1 : Int32)) 1530 = true then bw_ml (bw_up M14 94 (x12 + (1 : Int32)).toNatClampNeg (nI (v / 100))) fun M16 => if bw_ib (x12 + (2 : Int32)) 1530 = true then bw_ml (bw_up M16 94 (x12 + (2 : Int32)).toNatClampNeg (nI (v % 100))) fun M18 => if bw_ib (x12 + (3 : Int32)) 1530 = true then bw_ml (bw_up M18 94 (x12 + (3 : Int32)).toNatClampNeg (nI h)) fun M20 => bw_ml (bw_up M20 94 (5 : Int32).toNatClampNeg ((M20 94 (5 : Int32).toNatClampNeg) + (1 : Int32))) fun M21 => some ((M21 94 (5 : Int32).toNatClampNeg) - (1 : Int32), M21) else none else none else none else none) = X) := by
              intro M1 X hX
              unfold f_X10_board f_X10_isBook
              rw [z_in, e, if_neg (by decide), if_neg hb, g1, g2, z_in, z_in, z_in, z_c4, hX, m4, i2, if_neg (by decide), i, if_neg (by decide), if_neg hr', f, if_neg (by decide)]
            by_cases hs : s 5 < 12
            · rw [if_pos (show nI (s 5) < 12 from nI_lt (b := 12) hs (by omega))]
              have r1 : 110 + 4 * s 5 + 1 = 111 + 4 * s 5 := by omega
              have r2 : 110 + 4 * s 5 + 2 = 112 + 4 * s 5 := by omega
              have r3 : 110 + 4 * s 5 + 3 = 113 + 4 * s 5 := by omega
              refine ⟨nI (s 5), bw_up (bw_up (bw_up (bw_up (bw_up M (33 + s 5) 0 (nI k)) (33 + s 5) 1 (nI (v / 100))) (33 + s 5) 2 (nI (v % 100))) (33 + s 5) 3 (nI h)) 25 9 (nI (s 5 + 1)), ?_⟩
              generalize hM1 : bw_up (bw_up (bw_up (bw_up (bw_up M (33 + s 5) 0 (nI k)) (33 + s 5) 1 (nI (v / 100))) (33 + s 5) 2 (nI (v % 100))) (33 + s 5) 3 (nI h)) 25 9 (nI (s 5 + 1)) = M1
              have q94 : M1 94 = M 94 := by rw [← hM1]; simp (disch := omega) only [z_up_k]
              refine ⟨bw_up (bw_up (bw_up (bw_up (bw_up M1 94 (110 + 4 * s 5) (nI k)) 94 (111 + 4 * s 5) (nI (v / 100))) 94 (112 + 4 * s 5) (nI (v % 100))) 94 (113 + 4 * s 5) (nI h)) 94 5 (nI (s 5 + 1)), ?_, ?_, ?_⟩
              · rw [← hM1]
                simp (disch := omega) only [f_X6_addBoard, d5, l_0, l_1, l_2, l_3, l_4, l_5, l_6, l_7, l_8, l_9, l_10, l_11, l_12, l_13, l_14, l_15, l_16, l_17, l_18, l_19, l_20, l_21, l_22, l_23, l_24, l_25, l_26, l_27, l_28, l_29, l_30, l_31, l_33, l_38, l_40, l_41, l_42, l_43, l_45, l_47, l_48, l_57, l_60, l_61, l_62, l_96, l_97, l_99, l_100, l_101, l_104, l_108, l_110, l_112, l_121, l_122, l_124, l_158, l_186, l_255, l_336, l_999, l_1000, l_1530, l_9999, l_10000, l_99999, z_ml, nI_add, pk_sub, pk_mul, nI_clamp, nI_ltI, nI_leI, nI_eq, z_ib, z_in, z_up, z_up_k, if_pos, if_neg, ite_true, ite_false, and_self, and_true, true_and, and_false, false_and, Nat.add_sub_cancel, Nat.reduceAdd, Nat.reduceMul, Option.bind_some, eq_self]
              · refine (ml M1 _ q94).mpr ?_
                simp (disch := omega) only [q94, m4, m5, r1, r2, r3, l_0, l_1, l_2, l_3, l_4, l_5, l_6, l_7, l_8, l_9, l_10, l_11, l_12, l_13, l_14, l_15, l_16, l_17, l_18, l_19, l_20, l_21, l_22, l_23, l_24, l_25, l_26, l_27, l_28, l_29, l_30, l_31, l_33, l_38, l_40, l_41, l_42, l_43, l_45, l_47, l_48, l_57, l_60, l_61, l_62, l_96, l_97, l_99, l_100, l_101, l_104, l_108, l_110, l_112, l_121, l_122, l_124, l_158, l_186, l_255, l_336, l_999, l_1000, l_1530, l_9999, l_10000, l_99999, z_ml, nI_add, pk_sub, pk_mul, nI_clamp, nI_ltI, nI_leI, nI_eq, z_ib, z_in, z_up, z_up_k, if_pos, if_neg, ite_true, ite_false, and_self, and_true, true_and, and_false, false_and, Nat.add_sub_cancel, Nat.reduceAdd, Nat.reduceMul, Option.bind_some, eq_self]
              · exact z_bdI hI hS' hs hk (by omega) (by omega) hh hM1
            · have : s 5 = 12 := by omega
              refine ⟨_, M, M, by rw [if_neg (show ¬ nI (s 5) < 12 from nI_nlt (b := 12) (by omega) (by omega))], (ml M _ rfl).mpr ?_, z_nochange hI⟩
              rw [z_c5, m5, this, if_pos (by decide)]
set_option maxHeartbeats 4000000 in
theorem op_turns : Op_turns Inv := by
  intro n M a b hn hI
  have hI' := hI
  obtain ⟨⟨s, u, hS⟩, -⟩ := hI'
  have hS' := hS
  obtain ⟨hW, hM, hz, c1, c2, c3, c4, hT⟩ := hS
  obtain ⟨w1, w2, w3, w4, w5, w6, w7, w8, w9⟩ := hW.1
  obtain ⟨d1, d2, d3, d4, d5, d6, d7⟩ := c1
  have m4 : M 94 4 = nI (s 4) := hM 4 (by omega) (by omega)
  have m5 : M 94 5 = nI (s 5) := hM 5 (by omega) (by omega)
  have m6 : M 94 6 = nI (s 6) := hM 6 (by omega) (by omega)
  have m7 : M 94 7 = nI (s 7) := hM 7 (by omega) (by omega)
  rcases z_wi1 a (s 5) (by omega) with e | ⟨e, j, hj, rfl⟩
  · refine ⟨-1000000001, M, M, ?_, ?_, z_nochange hI⟩
    · unfold f_X9_turns f_X6_hasBoard; rw [d5, if_pos e]
    · unfold f_X10_turns f_X10_isBoard; rw [z_in, z_c5, m5, if_pos e]
  · rcases z_wi b 0 5 (by omega) (by omega) with g | ⟨g, k, -, hk, rfl⟩
    · rw [← l_0, ← l_5] at g
      refine ⟨-1000000001, M, M, ?_, ?_, z_nochange hI⟩
      · unfold f_X9_turns f_X6_hasBoard f_X9_isKind; rw [d5, e, if_neg (by decide), if_pos g]
      · unfold f_X10_turns f_X10_isBoard; rw [z_in, z_in, z_c5, m5, e, if_neg (by decide), if_pos g]
    · rw [← l_0, ← l_5] at g
      have t1 : M (33 + j) 0 = nI (s (110 + 4 * j)) := (c3 j hj).1
      have t2 : M 94 (110 + 4 * j) = nI (s (110 + 4 * j)) := hM _ (by omega) (by omega)
      refine ⟨nI (s (110 + 4 * j)), bw_up M (33 + j) 0 (nI k), bw_up (bw_up M (33 + j) 0 (nI k)) 94 (110 + 4 * j) (nI k), ?_, ?_, ?_⟩
      · unfold f_X9_turns f_X6_hasBoard f_X9_isKind
        rw [d5, e, if_neg (by decide), g, if_neg (by decide)]
        simp (disch := omega) only [t1, l_0, l_1, l_2, l_3, l_4, l_5, l_6, l_7, l_8, l_9, l_10, l_11, l_12, l_13, l_14, l_15, l_16, l_17, l_18, l_19, l_20, l_21, l_22, l_23, l_24, l_25, l_26, l_27, l_28, l_29, l_30, l_31, l_33, l_38, l_40, l_41, l_42, l_43, l_45, l_47, l_48, l_57, l_60, l_61, l_62, l_96, l_97, l_99, l_100, l_101, l_104, l_108, l_110, l_112, l_121, l_122, l_124, l_158, l_186, l_255, l_336, l_999, l_1000, l_1530, l_9999, l_10000, l_99999, z_ml, nI_add, pk_sub, pk_mul, nI_clamp, nI_ltI, nI_leI, nI_eq, z_ib, z_in, z_up, z_up_k, if_pos, if_neg, ite_true, ite_false, and_self, and_true, true_and, and_false, false_and, Nat.add_sub_cancel, Nat.reduceAdd, Nat.reduceMul, Option.bind_some, eq_self]
      · unfold f_X10_turns f_X10_isBoard f_X10_board4
        rw [z_in, z_in, z_c5, z_up_k _ _ _ _ (by omega), m5, e, if_neg (by decide), g, if_neg (by decide)]
        simp (disch := omega) only [t2, Nat.add_zero, l_0, l_1, l_2, l_3, l_4, l_5, l_6, l_7, l_8, l_9, l_10, l_11, l_12, l_13, l_14, l_15, l_16, l_17, l_18, l_19, l_20, l_21, l_22, l_23, l_24, l_25, l_26, l_27, l_28, l_29, l_30, l_31, l_33, l_38, l_40, l_41, l_42, l_43, l_45, l_47, l_48, l_57, l_60, l_61, l_62, l_96, l_97, l_99, l_100, l_101, l_104, l_108, l_110, l_112, l_121, l_122, l_124, l_158, l_186, l_255, l_336, l_999, l_1000, l_1530, l_9999, l_10000, l_99999, z_ml, nI_add, pk_sub, pk_mul, nI_clamp, nI_ltI, nI_leI, nI_eq, z_ib, z_in, z_up, z_up_k, if_pos, if_neg, ite_true, ite_false, and_self, and_true, true_and, and_false, false_and, Nat.add_sub_cancel, Nat.reduceAdd, Nat.reduceMul, Option.bind_some, eq_self]
      · refine z_Inv_stk hI ?_ ⟨z_su s (110 + 4 * j) k, u, z_Stk_mk hS' ?_ ?_ ?_ ?_ ?_ ?_ ?_ ?_⟩ (z_32 hI ?_)
        · intro k hk
          simp (disch := omega) only [z_up_k]
        · obtain ⟨hN, hB, hD, hA⟩ := hW
          refine ⟨?_, ?_, ?_, ?_⟩
          · simp (disch := omega) only [z_WN, z_su_a, if_pos, if_neg, ite_true, ite_false, and_self, and_true, true_and, and_false, false_and]; exact hN
          · intro i hi
            simp (disch := omega) only [z_su_a, if_pos, if_neg, ite_true, ite_false, and_self, and_true, true_and, and_false, false_and] at hi
            have := hB i hi
            simp (disch := omega) only [z_su_a, if_pos, if_neg, ite_true, ite_false, and_self, and_true, true_and, and_false, false_and]; exact this
          · intro i hi
            simp (disch := omega) only [z_su_a, if_pos, if_neg, ite_true, ite_false, and_self, and_true, true_and, and_false, false_and] at hi
            have := hD i hi
            by_cases g : i = j
            · subst g
              simp (disch := omega) only [z_su_a, if_pos, if_neg, ite_true, ite_false, and_self, and_true, true_and, and_false, false_and]; omega
            · simp (disch := omega) only [z_su_a, if_pos, if_neg, ite_true, ite_false, and_self, and_true, true_and, and_false, false_and]; exact this
          · intro i hi
            simp (disch := omega) only [z_su_a, if_pos, if_neg, ite_true, ite_false, and_self, and_true, true_and, and_false, false_and] at hi
            have := hA i hi
            simp (disch := omega) only [z_su_a, if_pos, if_neg, ite_true, ite_false, and_self, and_true, true_and, and_false, false_and]; exact this
        · refine z_MR_up ?_
          intro i h1 h2
          rw [z_up_k _ _ _ _ (by omega)]; exact hM i h1 h2
        · simp (disch := omega) only [z_up, if_pos, if_neg, ite_true, ite_false, and_self, and_true, true_and, and_false, false_and]; exact hz
        · refine ⟨?_, ?_, ?_, ?_⟩
          · simp (disch := omega) only [z_CN, z_up, z_su_a, if_pos, if_neg, ite_true, ite_false, and_self, and_true, true_and, and_false, false_and]; exact ⟨d1, d2, d3, d4, d5, d6, d7⟩
          · intro i hi
            simp (disch := omega) only [z_su_a, if_pos, if_neg, ite_true, ite_false, and_self, and_true, true_and, and_false, false_and] at hi
            have := c2 i hi
            simp (disch := omega) only [z_up, z_su_a, if_pos, if_neg, ite_true, ite_false, and_self, and_true, true_and, and_false, false_and]; exact this
          · intro i hi
            simp (disch := omega) only [z_su_a, if_pos, if_neg, ite_true, ite_false, and_self, and_true, true_and, and_false, false_and] at hi
            have := c3 i hi
            by_cases g : i = j
            · subst g
              simp (disch := omega) only [z_up, z_su_a, if_pos, if_neg, ite_true, ite_false, and_self, and_true, true_and, and_false, false_and]
              exact ⟨this.2.1, this.2.2.1, this.2.2.2⟩
            · simp (disch := omega) only [z_up, z_su_a, if_pos, if_neg, ite_true, ite_false, and_self, and_true, true_and, and_false, false_and]; exact this
          · intro i hi
            simp (disch := omega) only [z_su_a, if_pos, if_neg, ite_true, ite_false, and_self, and_true, true_and, and_false, false_and] at hi
            have := c4 i hi
            simp (disch := omega) only [z_up, z_su_a, if_pos, if_neg, ite_true, ite_false, and_self, and_true, true_and, and_false, false_and]; exact this
        · simp (disch := omega) only [z_su_a, if_pos, if_neg, ite_true, ite_false, and_self, and_true, true_and, and_false, false_and]
        · simp (disch := omega) only [z_up_k]
        · intro i hi
          simp (disch := omega) only [z_up, if_pos, if_neg, ite_true, ite_false, and_self, and_true, true_and, and_false, false_and]
        · intro c
          simp (disch := omega) only [z_up_k, and_self]
        · simp (disch := omega) only [z_up_k]
theorem op_clear : Op_clear Inv := by
  intro n M hn hI
  have hI' := hI
  obtain ⟨⟨s, u, hS⟩, -⟩ := hI'
  have hS' := hS
  obtain ⟨hW, hM, hz, c1, c2, c3, c4, hT⟩ := hS
  obtain ⟨w1, w2, w3, w4, w5, w6, w7, w8, w9⟩ := hW.1
  obtain ⟨d1, d2, d3, d4, d5, d6, d7⟩ := c1
  have m4 : M 94 4 = nI (s 4) := hM 4 (by omega) (by omega)
  have m5 : M 94 5 = nI (s 5) := hM 5 (by omega) (by omega)
  have m6 : M 94 6 = nI (s 6) := hM 6 (by omega) (by omega)
  have m7 : M 94 7 = nI (s 7) := hM 7 (by omega) (by omega)
  refine ⟨nI (s 7), bw_up M 25 11 (nI 0), bw_up (bw_up M 25 11 (nI 0)) 94 7 (nI 0), ?_, ?_, ?_⟩
  · unfold f_X9_clear; rw [z_ml, d6]; rfl
  · unfold f_X10_clear; rw [z_ml, z_c7, z_up_k _ _ _ _ (by omega), m7]; rfl
  · refine z_Inv_stk hI ?_ ⟨z_su s 7 0, u, z_Stk_mk hS' ?_ ?_ ?_ ?_ ?_ ?_ ?_ ?_⟩ (z_32 hI ?_)
    · intro k hk
      simp (disch := omega) only [z_up_k]
    · obtain ⟨hN, hB, hD, hA⟩ := hW
      refine ⟨?_, ?_, ?_, ?_⟩
      · simp (disch := omega) only [z_WN, z_su_a, if_pos, if_neg, ite_true, ite_false, and_self, and_true, true_and, and_false, false_and]; omega
      · intro i hi
        simp (disch := omega) only [z_su_a, if_pos, if_neg, ite_true, ite_false, and_self, and_true, true_and, and_false, false_and] at hi
        have := hB i hi
        simp (disch := omega) only [z_su_a, if_pos, if_neg, ite_true, ite_false, and_self, and_true, true_and, and_false, false_and]; exact this
      · intro i hi
        simp (disch := omega) only [z_su_a, if_pos, if_neg, ite_true, ite_false, and_self, and_true, true_and, and_false, false_and] at hi
        have := hD i hi
        simp (disch := omega) only [z_su_a, if_pos, if_neg, ite_true, ite_false, and_self, and_true, true_and, and_false, false_and]; exact this
      · intro i hi
        simp (disch := omega) only [z_su_a, if_pos, if_neg, ite_true, ite_false, and_self, and_true, true_and, and_false, false_and] at hi
        omega
    · refine z_MR_up ?_
      intro i h1 h2
      rw [z_up_k _ _ _ _ (by omega)]; exact hM i h1 h2
    · simp (disch := omega) only [z_up, if_pos, if_neg, ite_true, ite_false, and_self, and_true, true_and, and_false, false_and]; exact hz
    · refine ⟨?_, ?_, ?_, ?_⟩
      · simp (disch := omega) only [z_CN, z_up, z_su_a, if_pos, if_neg, ite_true, ite_false, and_self, and_true, true_and, and_false, false_and]; exact ⟨d1, d2, d3, d4, d5, d7⟩
      · intro i hi
        simp (disch := omega) only [z_su_a, if_pos, if_neg, ite_true, ite_false, and_self, and_true, true_and, and_false, false_and] at hi
        have := c2 i hi
        simp (disch := omega) only [z_up, z_su_a, if_pos, if_neg, ite_true, ite_false, and_self, and_true, true_and, and_false, false_and]; exact this
      · intro i hi
        simp (disch := omega) only [z_su_a, if_pos, if_neg, ite_true, ite_false, and_self, and_true, true_and, and_false, false_and] at hi
        have := c3 i hi
        simp (disch := omega) only [z_up, z_su_a, if_pos, if_neg, ite_true, ite_false, and_self, and_true, true_and, and_false, false_and]; exact this
      · intro i hi
        simp (disch := omega) only [z_su_a, if_pos, if_neg, ite_true, ite_false, and_self, and_true, true_and, and_false, false_and] at hi
        omega
    · simp (disch := omega) only [z_su_a, if_pos, if_neg, ite_true, ite_false, and_self, and_true, true_and, and_false, false_and]
    · simp (disch := omega) only [z_up_k]
    · intro i hi
      simp (disch := omega) only [z_up, if_pos, if_neg, ite_true, ite_false, and_self, and_true, true_and, and_false, false_and]
    · intro c
      simp (disch := omega) only [z_up_k, and_self]
    · simp (disch := omega) only [z_up_k]
