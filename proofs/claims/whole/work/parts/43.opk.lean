/-! level 2: keep, back -/
theorem z_bcC {S S1 : Nat} (hS : S + 20 ≤ S1 ∨ S1 + 20 ≤ S) (h0 : 0 < S) : ∀ r i fu (M : Mem), (∀ j, j < 14 → bw_lk0 M (M (S1 + 7) j) = true) → i + r = 14 → r < fu → ∃ M', f_X6_become_L172 S S1 fu (nI i) M = some M' ∧ (∀ j, M' (S + 7) j = if i ≤ j ∧ j < 14 then M (S1 + 7) j else M (S + 7) j) ∧ ∀ b, b ≠ S + 7 → M' b = M b := by
  intro r
  induction r with
  | zero =>
    intro i fu M hl h1 h2
    obtain ⟨fu, rfl⟩ : ∃ f, fu = f + 1 := ⟨fu - 1, by omega⟩
    refine ⟨M, ?_, fun j => by rw [if_neg (by omega)], fun _ _ => rfl⟩
    rw [f_X6_become_L172, l_14, if_pos (nI_le (by omega) (by omega))]
  | succ r ih =>
    intro i fu M hl h1 h2
    obtain ⟨fu, rfl⟩ : ∃ f, fu = f + 1 := ⟨fu - 1, by omega⟩
    obtain ⟨M', e1, e2, e3⟩ := ih (i + 1) fu (bw_up M (S + 7) i (M (S1 + 7) i)) (by
      intro j hj
      have := hl j hj
      unfold bw_lk0 bw_lok at this ⊢
      rw [z_up_k _ _ _ _ (by omega), z_up_k _ _ _ _ (by omega)]
      exact this) (by omega) (by omega)
    refine ⟨M', ?_, ?_, ?_⟩
    · rw [f_X6_become_L172, l_14, if_neg (nI_ge (by omega) (by omega)), z_ib (by omega) (by omega), if_pos rfl, nI_clamp (by omega), hl i (by omega), if_pos rfl, z_ml, nI_1, e1]
    · intro j
      rw [e2 j, z_up_k _ _ _ _ (by omega)]
      by_cases g : j = i
      · subst g
        rw [if_neg (by omega), if_pos (by omega), z_up_s]
      · rw [z_up_i _ _ _ _ g]
        by_cases g2 : i + 1 ≤ j ∧ j < 14
        · rw [if_pos g2, if_pos (by omega)]
        · rw [if_neg g2, if_neg (by omega)]
    · intro b hb; rw [e3 b hb, z_up_k _ _ _ _ hb]
theorem z_bd4 {M : Mem} {b b1 : Nat} (hb : b ≠ b1) : ∃ M', f_X0_become M b b1 = some M' ∧ (∀ p, p < 4 → M' b p = M b1 p) ∧ ∀ x, x ≠ b → M' x = M x := by
  refine ⟨bw_up (bw_up (bw_up (bw_up M b 0 (M b1 0)) b 1 (M b1 1)) b 2 (M b1 2)) b 3 (M b1 3), ?_, ?_, ?_⟩
  · have hb' : b1 ≠ b := fun h => hb h.symm
    unfold f_X0_become
    simp only [z_ml, z_up_k _ _ _ _ hb']
  · intro p hp
    rcases (by omega : p = 0 ∨ p = 1 ∨ p = 2 ∨ p = 3) with rfl | rfl | rfl | rfl <;> simp (disch := omega) only [z_up, if_pos, if_neg, ite_true, ite_false, and_self, and_true, true_and, and_false, false_and]
  · intro x hx
    simp (disch := assumption) only [z_up_k]
theorem z_bcB {S S1 : Nat} (hS : S + 20 ≤ S1 ∨ S1 + 20 ≤ S) : ∀ r i fu (M : Mem), i + r = 12 → r < fu → ∃ M', f_X6_become_L112 S S1 fu (nI i) M = f_X6_become_L172 S S1 bw_fu 0 M' ∧ M' S 11 = M S1 11 ∧ M' S 13 = M S1 13 ∧ (∀ x, x ≠ 11 → x ≠ 13 → M' S x = M S x) ∧ (∀ j, j < 6 → M' (S + 6) j = M (S1 + 6) j) ∧ (∀ k, i ≤ k → k < 12 → ∀ p, p < 4 → M' (S + 8 + k) p = M (S1 + 8 + k) p) ∧ (∀ b, b ≠ S → b ≠ S + 6 → b < S + 8 + i ∨ S + 20 ≤ b → M' b = M b) := by
  intro r
  induction r with
  | zero =>
    intro i fu M h1 h2
    obtain ⟨fu, rfl⟩ : ∃ f, fu = f + 1 := ⟨fu - 1, by omega⟩
    refine ⟨bw_up (bw_cpy (bw_up M S 11 (M S1 11)) (S1 + 6) 0 (S + 6) 0 6) S 13 (M S1 13), ?_, ?_, ?_, ?_, ?_, ?_, ?_⟩
    · rw [f_X6_become_L112, l_12, if_pos (nI_le (by omega) (by omega)), z_ml, if_pos (by decide), z_ml, z_ml]
      congr 2
      unfold bw_cpy
      rw [z_rowk _ _ _ (by omega), z_up_k _ _ _ _ (by omega)]
    · rw [z_up_i _ _ _ _ (by omega)]; unfold bw_cpy; rw [z_rowk _ _ _ (by omega), z_up_s]
    · rw [z_up_s]
    · intro x h3 h4; rw [z_up_i _ _ _ _ h4]; unfold bw_cpy; rw [z_rowk _ _ _ (by omega), z_up_i _ _ _ _ h3]
    · intro j hj
      rw [z_up_k _ _ _ _ (by omega)]; unfold bw_cpy; rw [z_rows, z_up_k _ _ _ _ (by omega), z_up_k _ _ _ _ (by omega)]
      rw [show ((0 : Int32).toNatClampNeg) = 0 from rfl, show ((6 : Int32).toNatClampNeg) = 6 from rfl, pk_cpy_in (by omega) (by omega)]
      congr 1; omega
    · intro k h3 h4; omega
    · intro b h3 h4 h5
      rw [z_up_k _ _ _ _ h3]; unfold bw_cpy; rw [z_rowk _ _ _ h4, z_up_k _ _ _ _ h3]
  | succ r ih =>
    intro i fu M h1 h2
    obtain ⟨fu, rfl⟩ : ∃ f, fu = f + 1 := ⟨fu - 1, by omega⟩
    obtain ⟨M1, b1, b2, b3⟩ := z_bd4 (M := M) (b := S + 8 + i) (b1 := S1 + 8 + i) (by omega)
    obtain ⟨M', e1, e2, e3, e4, e5, e6, e7⟩ := ih (i + 1) fu M1 (by omega) (by omega)
    refine ⟨M', ?_, ?_, ?_, ?_, ?_, ?_, ?_⟩
    · rw [f_X6_become_L112, l_12, if_neg (nI_ge (by omega) (by omega)), z_ib (by omega) (by omega), if_pos rfl, nI_clamp (by omega), b1, Option.bind_some, nI_1, e1]
    · rw [e2, b3 _ (by omega)]
    · rw [e3, b3 _ (by omega)]
    · intro x h3 h4; rw [e4 x h3 h4, b3 _ (by omega)]
    · intro j hj; rw [e5 j hj, b3 _ (by omega)]
    · intro k h3 h4 p hp
      by_cases g : k = i
      · subst g; rw [e7 _ (by omega) (by omega) (by omega), b2 p hp]
      · rw [e6 k (by omega) h4 p hp, b3 _ (by omega)]
    · intro b h3 h4 h5; rw [e7 b h3 h4 (by omega), b3 _ (by omega)]
theorem z_bcA {S S1 : Nat} (hS : S + 20 ≤ S1 ∨ S1 + 20 ≤ S) : ∀ r i fu (M : Mem), i + r = 24 → r < fu → ∃ M', f_X6_become_L10 S S1 fu (nI i) M = f_X6_become_L112 S S1 bw_fu 0 M' ∧ (∀ x, 5 ≤ x → x ≤ 9 → M' S x = M S1 x) ∧ (∀ x, x < 5 ∨ 9 < x → M' S x = M S x) ∧ (∀ j, i ≤ j → j < 24 → M' (S + 1) j = M (S1 + 1) j ∧ M' (S + 2) j = M (S1 + 2) j ∧ M' (S + 3) j = M (S1 + 3) j ∧ M' (S + 4) j = bw_nz (M (S1 + 4) j)) ∧ (∀ j, j < i → M' (S + 1) j = M (S + 1) j ∧ M' (S + 2) j = M (S + 2) j ∧ M' (S + 3) j = M (S + 3) j ∧ M' (S + 4) j = M (S + 4) j) ∧ (∀ b, b < S ∨ S + 4 < b → M' b = M b) := by
  intro r
  induction r with
  | zero =>
    intro i fu M h1 h2
    obtain ⟨fu, rfl⟩ : ∃ f, fu = f + 1 := ⟨fu - 1, by omega⟩
    refine ⟨bw_up (bw_up (bw_up (bw_up (bw_up M S 5 (M S1 5)) S 6 (M S1 6)) S 7 (M S1 7)) S 8 (M S1 8)) S 9 (M S1 9), ?_, ?_, ?_, ?_, ?_, ?_⟩
    · rw [f_X6_become_L10, l_24, if_pos (nI_le (by omega) (by omega))]
      rw [z_ml, z_ml, z_ml, z_ml, z_ml]
      refine congrArg (f_X6_become_L112 S S1 bw_fu 0) ?_
      simp (disch := omega) only [z_up_k]
    · intro x h3 h4
      rcases (by omega : x = 5 ∨ x = 6 ∨ x = 7 ∨ x = 8 ∨ x = 9) with rfl | rfl | rfl | rfl | rfl <;> simp (disch := omega) only [z_up, if_pos, if_neg, ite_true, ite_false, and_self, and_true, true_and, and_false, false_and]
    · intro x hx
      simp (disch := omega) only [z_up, if_pos, if_neg, ite_true, ite_false, and_self, and_true, true_and, and_false, false_and]
    · intro j h3 h4; omega
    · intro j hj
      simp (disch := omega) only [z_up_k, and_self]
    · intro b hb
      simp (disch := omega) only [z_up_k]
  | succ r ih =>
    intro i fu M h1 h2
    obtain ⟨fu, rfl⟩ : ∃ f, fu = f + 1 := ⟨fu - 1, by omega⟩
    obtain ⟨M1, hM1⟩ : ∃ M1, M1 = bw_up (bw_up (bw_up (bw_up M (S + 1) i (M (S1 + 1) i)) (S + 2) i (M (S1 + 2) i)) (S + 3) i (M (S1 + 3) i)) (S + 4) i (bw_nz (M (S1 + 4) i)) := ⟨_, rfl⟩
    have o : ∀ b, b < S + 1 ∨ S + 4 < b → M1 b = M b := by
      intro b hb; rw [hM1]; simp (disch := omega) only [z_up_k]
    have a1 : ∀ j, M1 (S + 1) j = if j = i then M (S1 + 1) i else M (S + 1) j := by
      intro j; rw [hM1]; simp (disch := omega) only [z_up_k]; rw [z_up]; by_cases g : j = i <;> simp [g]
    have a2 : ∀ j, M1 (S + 2) j = if j = i then M (S1 + 2) i else M (S + 2) j := by
      intro j; rw [hM1, z_up_k _ _ _ _ (by omega), z_up_k _ _ _ _ (by omega), z_up, z_up_k _ _ _ _ (by omega)]; by_cases g : j = i <;> simp [g]
    have a3 : ∀ j, M1 (S + 3) j = if j = i then M (S1 + 3) i else M (S + 3) j := by
      intro j; rw [hM1, z_up_k _ _ _ _ (by omega), z_up, z_up_k _ _ _ _ (by omega), z_up_k _ _ _ _ (by omega)]; by_cases g : j = i <;> simp [g]
    have a4 : ∀ j, M1 (S + 4) j = if j = i then bw_nz (M (S1 + 4) i) else M (S + 4) j := by
      intro j; rw [hM1, z_up, z_up_k _ _ _ _ (by omega), z_up_k _ _ _ _ (by omega), z_up_k _ _ _ _ (by omega)]; by_cases g : j = i <;> simp [g]
    obtain ⟨M', e1, e2, e3, e4, e5, e6⟩ := ih (i + 1) fu M1 (by omega) (by omega)
    refine ⟨M', ?_, ?_, ?_, ?_, ?_, ?_⟩
    · rw [f_X6_become_L10, l_24, if_neg (nI_ge (by omega) (by omega)), z_ib (by omega) (by omega), if_pos rfl, nI_clamp (by omega)]
      rw [z_ml, z_ml, z_ml, z_ml, nI_1]
      refine Eq.trans (congrArg (f_X6_become_L10 S S1 fu (nI (i + 1))) ?_) e1
      rw [hM1]
      simp (disch := omega) only [z_up_k]
    · intro x h3 h4; rw [e2 x h3 h4, o _ (by omega)]
    · intro x hx; rw [e3 x hx, o _ (by omega)]
    · intro j h3 h4
      by_cases g : j = i
      · subst g
        obtain ⟨f1, f2, f3, f4⟩ := e5 j (by omega)
        rw [f1, f2, f3, f4, a1, a2, a3, a4, if_pos rfl, if_pos rfl, if_pos rfl, if_pos rfl]
        exact ⟨rfl, rfl, rfl, rfl⟩
      · obtain ⟨f1, f2, f3, f4⟩ := e4 j (by omega) h4
        rw [f1, f2, f3, f4, o _ (by omega), o _ (by omega), o _ (by omega), o _ (by omega)]
        exact ⟨rfl, rfl, rfl, rfl⟩
    · intro j hj
      obtain ⟨f1, f2, f3, f4⟩ := e5 j (by omega)
      rw [f1, f2, f3, f4, a1, a2, a3, a4, if_neg (by omega), if_neg (by omega), if_neg (by omega), if_neg (by omega)]
      exact ⟨rfl, rfl, rfl, rfl⟩
    · intro b hb; rw [e6 b hb, o _ (by omega)]
theorem z_bec {S S1 : Nat} {M : Mem} (hS : S + 20 ≤ S1 ∨ S1 + 20 ≤ S) (h0 : 0 < S) (hl : ∀ j, j < 14 → bw_lk0 M (M (S1 + 7) j) = true) : ∃ M', f_X6_become M S S1 = some M' ∧ (∀ x, x = 0 ∨ (5 ≤ x ∧ x ≤ 9) ∨ x = 11 ∨ x = 13 → M' S x = M S1 x) ∧ (∀ j, j < 24 → M' (S + 1) j = M (S1 + 1) j ∧ M' (S + 2) j = M (S1 + 2) j ∧ M' (S + 3) j = M (S1 + 3) j ∧ M' (S + 4) j = bw_nz (M (S1 + 4) j)) ∧ (∀ j, j < 6 → M' (S + 6) j = M (S1 + 6) j) ∧ (∀ j, j < 14 → M' (S + 7) j = M (S1 + 7) j) ∧ (∀ k, k < 12 → ∀ p, p < 4 → M' (S + 8 + k) p = M (S1 + 8 + k) p) ∧ (∀ b, b < S ∨ S + 20 ≤ b → M' b = M b) := by
  have hfu : 30 < bw_fu := by decide
  obtain ⟨Ma, a1, a2, a3, a4, a5, a6⟩ := z_bcA hS 24 0 bw_fu (bw_up M S 0 (M S1 0)) (by omega) (by omega)
  obtain ⟨Mb, b1, b2, b3, b4, b5, b6, b7⟩ := z_bcB hS 12 0 bw_fu Ma (by omega) (by omega)
  have u : ∀ b, b ≠ S → bw_up M S 0 (M S1 0) b = M b := fun b hb => z_up_k _ _ _ _ hb
  have row : ∀ b, b < S ∨ S + 20 ≤ b → Mb b = M b := by
    intro b hb; rw [b7 b (by omega) (by omega) (by omega), a6 b (by omega), u b (by omega)]
  obtain ⟨Mc, c1, c2, c3⟩ := z_bcC hS h0 14 0 bw_fu Mb (by
    intro j hj
    have := hl j hj
    unfold bw_lk0 bw_lok at this ⊢
    rw [row 0 (by omega), row (S1 + 7) (by omega)]
    exact this) (by omega) (by omega)
  refine ⟨Mc, ?_, ?_, ?_, ?_, ?_, ?_, ?_⟩
  · unfold f_X6_become
    rw [z_ml, l_0, a1, l_0, b1, l_0, c1]
  · intro x hx
    rw [c3 S (by omega)]
    rcases hx with rfl | hx | rfl | rfl
    · rw [b4 0 (by omega) (by omega), a3 0 (by omega), z_up_s]
    · rw [b4 x (by omega) (by omega), a2 x hx.1 hx.2, u S1 (by omega)]
    · rw [b2, a6 S1 (by omega), u S1 (by omega)]
    · rw [b3, a6 S1 (by omega), u S1 (by omega)]
  · intro j hj
    obtain ⟨f1, f2, f3, f4⟩ := a4 j (by omega) hj
    rw [c3 _ (by omega), c3 _ (by omega), c3 _ (by omega), c3 _ (by omega), b7 (S + 1) (by omega) (by omega) (by omega), b7 (S + 2) (by omega) (by omega) (by omega), b7 (S + 3) (by omega) (by omega) (by omega), b7 (S + 4) (by omega) (by omega) (by omega), f1, f2, f3, f4, u _ (by omega), u _ (by omega), u _ (by omega), u _ (by omega)]
    exact ⟨rfl, rfl, rfl, rfl⟩
  · intro j hj
    rw [c3 _ (by omega), b5 j hj, a6 _ (by omega), u _ (by omega)]
  · intro j hj
    rw [c2 j, if_pos (by omega), row _ (by omega)]
  · intro k hk p hp
    rw [c3 _ (by omega), b6 k (by omega) hk p hp, a6 _ (by omega), u _ (by omega)]
  · intro b hb
    rw [c3 b (by omega), row b hb]
theorem z_cAll {a0 a1 : Nat} (h : a0 ≠ a1) : ∀ r i fu (M : Mem), i + r = 1530 → r < fu → ∃ M', f_X10_copyAll_L2 a0 a1 fu (nI i) M = some M' ∧ (∀ j, M' a1 j = if i ≤ j ∧ j < 1530 then M a0 j else M a1 j) ∧ ∀ b, b ≠ a1 → M' b = M b := by
  intro r
  induction r with
  | zero =>
    intro i fu M h1 h2
    obtain ⟨fu, rfl⟩ : ∃ f, fu = f + 1 := ⟨fu - 1, by omega⟩
    refine ⟨M, ?_, fun j => by rw [if_neg (by omega)], fun _ _ => rfl⟩
    rw [f_X10_copyAll_L2, l_1530, if_pos (nI_le (by omega) (by omega))]
  | succ r ih =>
    intro i fu M h1 h2
    obtain ⟨fu, rfl⟩ : ∃ f, fu = f + 1 := ⟨fu - 1, by omega⟩
    obtain ⟨M', e1, e2, e3⟩ := ih (i + 1) fu (bw_up M a1 i (M a0 i)) (by omega) (by omega)
    refine ⟨M', ?_, ?_, ?_⟩
    · rw [f_X10_copyAll_L2, l_1530, if_neg (nI_ge (by omega) (by omega)), z_ib (by omega) (by omega), if_pos rfl, nI_clamp (by omega), z_ml, nI_1, e1]
    · intro j
      rw [e2 j, z_up_k _ _ _ _ h]
      by_cases g : j = i
      · subst g
        rw [if_neg (by omega), if_pos (by omega), z_up_s]
      · rw [z_up_i _ _ _ _ g]
        by_cases g2 : i + 1 ≤ j ∧ j < 1530
        · rw [if_pos g2, if_pos (by omega)]
        · rw [if_neg g2, if_neg (by omega)]
    · intro b hb; rw [e3 b hb, z_up_k _ _ _ _ hb]
theorem z_cpAll {a0 a1 : Nat} {M : Mem} (h : a0 ≠ a1) : ∃ M', f_X10_copyAll M a0 a1 = some M' ∧ (∀ j, j < 1530 → M' a1 j = M a0 j) ∧ ∀ b, b ≠ a1 → M' b = M b := by
  obtain ⟨M', e1, e2, e3⟩ := z_cAll h 1530 0 bw_fu M (by omega) (by decide)
  refine ⟨M', ?_, ?_, e3⟩
  · unfold f_X10_copyAll; rw [l_0, e1]
  · intro j hj; rw [e2 j, if_pos (by omega)]
theorem z_nzI {b : Nat} (h : b ≤ 1) : bw_nz (nI b) = nI b := by
  rcases (by omega : b = 0 ∨ b = 1) with rfl | rfl
  · exact z_nz0
  · exact z_nz1
/-- a stock's picture elsewhere -/
theorem z_Stk_cp {M M' : Mem} {S R S1 R1 : Nat} {s : Nat → Nat} {u : Nat → TU} (h : z_Stk M S1 R1 s u) (q1 : ∀ x, x = 0 ∨ (5 ≤ x ∧ x ≤ 9) ∨ x = 11 ∨ x = 13 → M' S x = M S1 x) (q2 : ∀ j, j < 24 → M' (S + 1) j = M (S1 + 1) j ∧ M' (S + 2) j = M (S1 + 2) j ∧ M' (S + 3) j = M (S1 + 3) j ∧ M' (S + 4) j = bw_nz (M (S1 + 4) j)) (q3 : ∀ j, j < 6 → M' (S + 6) j = M (S1 + 6) j) (q4 : ∀ j, j < 14 → M' (S + 7) j = M (S1 + 7) j) (q5 : ∀ k, k < 12 → ∀ p, p < 4 → M' (S + 8 + k) p = M (S1 + 8 + k) p) (q6 : ∀ j, j < 1530 → M' R j = M R1 j) (hL : z_LE M M') : z_Stk M' S R s u := by
  obtain ⟨hW, hM, hz, c1, c2, c3, c4, hT⟩ := h
  obtain ⟨w1, w2, w3, w4, w5, w6, w7, w8, w9⟩ := hW.1
  refine ⟨hW, ?_, ?_, ?_, ?_, ?_, ?_, ?_⟩
  · intro i h1 h2; rw [q6 i (by omega)]; exact hM i h1 h2
  · rw [q1 8 (by omega), q6 0 (by omega)]; exact hz
  · unfold z_CN
    rw [q1 0 (by omega), q1 5 (by omega), q1 6 (by omega), q1 7 (by omega), q1 9 (by omega), q1 11 (by omega), q1 13 (by omega)]
    exact c1
  · intro i hi
    obtain ⟨f1, f2, f3, f4⟩ := q2 i (by omega)
    obtain ⟨g1, g2, g3, g4⟩ := c2 i hi
    rw [f1, f2, f3, f4, g4, z_nzI (hW.2.1 i hi).2.2.2.2.2]
    exact ⟨g1, g2, g3, rfl⟩
  · intro i hi
    rw [q5 i (by omega) 0 (by omega), q5 i (by omega) 1 (by omega), q5 i (by omega) 2 (by omega), q5 i (by omega) 3 (by omega)]
    exact c3 i hi
  · intro i hi
    rw [q3 i (by omega)]; exact c4 i hi
  · intro t ht
    obtain ⟨g1, g2, g3, g4, g5, g6⟩ := hT t ht
    have := g2.2.2.2.1
    refine ⟨by rw [q4 t (by omega)]; exact g1, g2, z_Law_fr hL g3, ?_, ?_, ?_⟩
    · rw [q6 _ (by omega)]; exact g4
    · rw [q6 _ (by omega)]; exact g5
    · intro k hk; rw [q6 _ (by omega)]; exact g6 k hk
theorem z_lk {M : Mem} {x : Int32} {c : Nat} (hc : c ≤ 512) (h0 : M 0 1000 = nI c) (h : z_Lok M x) : bw_lk0 M x = true := by
  obtain ⟨j, hj, rfl⟩ := h
  rw [h0, nI_clamp (by omega)] at hj
  unfold bw_lk0 bw_lok
  rw [h0, nI_clamp (by omega), nI_clamp (by omega)]
  by_cases g : nI j = 0
  · simp [g]
  · simp [g, hj, nI_pos' (show j < 2 ^ 31 by omega)]
theorem op_keep : Op_keep Inv := by
  intro n M hn hI
  have hI' := hI
  obtain ⟨⟨s, u, hS⟩, -⟩ := hI'
  have hS' := hS
  obtain ⟨hW, hM, hz, c1, c2, c3, c4, hT⟩ := hS
  obtain ⟨w1, w2, w3, w4, w5, w6, w7, w8, w9⟩ := hW.1
  obtain ⟨d1, d2, d3, d4, d5, d6, d7⟩ := c1
  have m4 : M 94 4 = nI (s 4) := hM 4 (by omega) (by omega)
  have m5 : M 94 5 = nI (s 5) := hM 5 (by omega) (by omega)
  have m6 : M 94 6 = nI (s 6) := hM 6 (by omega) (by omega)
  have m7 : M 94 7 = nI (s 7) := hM 7 (by omega) (by omega)
  obtain ⟨-, b, c, d, e, f, g, ⟨q, hq, i1, i2⟩, ⟨⟨x, hx, hx2, hx3⟩, h4, h5, h6⟩⟩ := hI
  obtain ⟨M1, p1, p2, p3, p4, p5, p6, p7⟩ := z_bec (S := 45) (S1 := 25) (M := M) (by omega) (by omega) (fun j hj => z_lk hx2 hx3 (h4 j hj).1)
  obtain ⟨M2, r1, r2, r3⟩ := z_cpAll (a0 := 94) (a1 := 95) (M := bw_up M1 0 2 1) (by omega)
  obtain ⟨M3, hM3⟩ : ∃ M3, M3 = bw_up M2 93 3 1 := ⟨_, rfl⟩
  have fr : ∀ k, k ≠ 0 → k < 45 ∨ 65 ≤ k → k ≠ 93 → k ≠ 95 → M3 k = M k := by
    intro k h1 h2 h3 h4
    rw [hM3, z_up_k _ _ _ _ h3, r3 k h4, z_up_k _ _ _ _ h1, p7 k (by omega)]
  have f0 : ∀ k, k ≠ 2 → M3 0 k = M 0 k := by
    intro k h1
    rw [hM3, z_up_k _ _ _ _ (by omega), r3 0 (by omega), z_up_i _ _ _ _ h1, p7 0 (by omega)]
  have f93 : ∀ k, k ≠ 3 → M3 93 k = M 93 k := by
    intro k h1
    rw [hM3, z_up_i _ _ _ _ h1, r3 93 (by omega), z_up_k _ _ _ _ (by omega), p7 93 (by omega)]
  have f45 : ∀ k, 45 ≤ k → k < 65 → M3 k = M1 k := by
    intro k h1 h2
    rw [hM3, z_up_k _ _ _ _ (by omega), r3 k (by omega), z_up_k _ _ _ _ (by omega)]
  have hLE : z_LE M M3 := fun c => ⟨fr _ (by omega) (by omega) (by omega) (by omega), fr _ (by omega) (by omega) (by omega) (by omega), by rw [fr _ (by omega) (by omega) (by omega) (by omega)]⟩
  refine ⟨nI (s 4), bw_up M1 0 2 1, M3, ?_, ?_, ?_⟩
  · unfold f_X9_keep
    rw [p1, Option.bind_some, z_ml, z_up_k _ _ _ _ (by omega), p7 25 (by omega), d1]
  · unfold f_X10_keep
    rw [r1, Option.bind_some, z_ml, ← hM3, z_c4, fr 94 (by omega) (by omega) (by omega) (by omega), m4]
  · refine ⟨⟨s, u, z_Stk_fr (fr _ (by omega) (by omega) (by omega) (by omega)) (fun k h1 h2 => fr k (by omega) (by omega) (by omega) (by omega)) hLE hS'⟩, ⟨?_, Or.inr ⟨?_, s, u, ?_⟩⟩, z_Tap_fr (by rw [fr _ (by omega) (by omega) (by omega) (by omega)]) (f93 _ (by omega)) (fr _ (by omega) (by omega) (by omega) (by omega)) (fr _ (by omega) (by omega) (by omega) (by omega)) c, z_Key_fr (fr _ (by omega) (by omega) (by omega) (by omega)) (fr _ (by omega) (by omega) (by omega) (by omega)) d, z_Sht_fr (fun k h1 h2 => fr k (by omega) (by omega) (by omega) (by omega)) (fr _ (by omega) (by omega) (by omega) (by omega)) (fr _ (by omega) (by omega) (by omega) (by omega)) (fr _ (by omega) (by omega) (by omega) (by omega)) e, z_Slt_fr (fun k h1 h2 => fr k (by omega) (by omega) (by omega) (by omega)) (fr _ (by omega) (by omega) (by omega) (by omega)) (fr _ (by omega) (by omega) (by omega) (by omega)) (fr _ (by omega) (by omega) (by omega) (by omega)) (fr _ (by omega) (by omega) (by omega) (by omega)) f, z_Wai_fr (f0 _ (by omega)) (f93 _ (by omega)) (fr _ (by omega) (by omega) (by omega) (by omega)) (fr _ (by omega) (by omega) (by omega) (by omega)) g, z_Ask_fr (f93 _ (by omega)) (fr _ (by omega) (by omega) (by omega) (by omega)) ⟨q, by omega, i1, i2⟩, ⟨x, by omega, hx2, by rw [f0 _ (by omega)]; exact hx3⟩, ?_, ?_, ?_⟩
    · rw [hM3, z_up_k _ _ _ _ (by omega), r3 0 (by omega), z_up_s, z_up_s]
    · rw [hM3, z_up_k _ _ _ _ (by omega), r3 0 (by omega), z_up_s]
    · refine z_Stk_cp hS' ?_ ?_ ?_ ?_ ?_ ?_ hLE
      · intro x hx; rw [f45 _ (by omega) (by omega)]; exact p2 x hx
      · intro j hj; rw [f45 _ (by omega) (by omega), f45 _ (by omega) (by omega), f45 _ (by omega) (by omega), f45 _ (by omega) (by omega)]; exact p3 j hj
      · intro j hj; rw [f45 _ (by omega) (by omega)]; exact p4 j hj
      · intro j hj; rw [f45 _ (by omega) (by omega)]; exact p5 j hj
      · intro k hk p hp; rw [f45 _ (by omega) (by omega)]; exact p6 k hk p hp
      · intro j hj; rw [hM3, z_up_k _ _ _ _ (by omega), r2 j hj, z_up_k _ _ _ _ (by omega), p7 _ (by omega)]
    · intro i hi
      unfold z_Lok
      rw [f0 _ (by omega), fr 32 (by omega) (by omega) (by omega) (by omega), f45 52 (by omega) (by omega), p5 i hi]
      exact ⟨(h4 i hi).1, (h4 i hi).1⟩
    · unfold z_Lok
      rw [f0 _ (by omega), fr 1 (by omega) (by omega) (by omega) (by omega)]; exact h5
    · unfold z_Lok
      rw [f0 _ (by omega), fr 11 (by omega) (by omega) (by omega) (by omega)]; exact h6
theorem op_back : Op_back Inv := by
  intro n M hn hI
  have hI' := hI
  obtain ⟨-, ⟨b1, b2⟩, -⟩ := hI
  rcases b2 with b2 | ⟨b2, s, u, hS⟩
  · refine ⟨-1000000002, M, M, ?_, ?_, z_nochange hI'⟩
    · unfold f_X9_back; rw [if_pos b2]
    · unfold f_X10_back; rw [← b1, if_pos b2]
  · have hI2 := hI'
    obtain ⟨-, -, -, -, -, -, -, -, ⟨⟨x, hx, hx2, hx3⟩, h4, h5, h6⟩⟩ := hI2
    obtain ⟨M1, p1, p2, p3, p4, p5, p6, p7⟩ := z_bec (S := 25) (S1 := 45) (M := M) (by omega) (by omega) (fun j hj => z_lk hx2 hx3 (h4 j hj).2)
    obtain ⟨M2, r1, r2, r3⟩ := z_cpAll (a0 := 95) (a1 := 94) (M := M1) (by omega)
    have fr : ∀ k, k < 25 ∨ (44 < k ∧ k ≠ 94) → M2 k = M k := by
      intro k h1
      rw [r3 k (by omega), p7 k (by omega)]
    have n1 : ¬ M 0 2 = 0 := by rw [b2]; decide
    have st : z_Stk M2 25 94 s u := by
      refine z_Stk_cp hS ?_ ?_ ?_ ?_ ?_ ?_ (z_Oth_LE fr)
      · intro x hx; rw [r3 _ (by omega)]; exact p2 x hx
      · intro j hj; rw [r3 _ (by omega), r3 _ (by omega), r3 _ (by omega), r3 _ (by omega)]; exact p3 j hj
      · intro j hj; rw [r3 _ (by omega)]; exact p4 j hj
      · intro j hj; rw [r3 _ (by omega)]; exact p5 j hj
      · intro k hk p hp; rw [r3 _ (by omega)]; exact p6 k hk p hp
      · intro j hj; rw [r2 j hj, p7 _ (by omega)]
    refine ⟨nI (s 4), M1, M2, ?_, ?_, ?_⟩
    · unfold f_X9_back
      rw [if_neg n1, p1, Option.bind_some, p2 0 (by omega), hS.2.2.2.1.1]
    · unfold f_X10_back
      rw [p7 93 (by omega), ← b1, if_neg n1, r1, Option.bind_some, z_c4, st.2.1 4 (by omega) (by omega)]
    · refine z_Inv_stk hI' fr ⟨s, u, st⟩ ?_
      intro i hi
      rw [r3 _ (by omega), p5 i hi]
      exact (h4 i hi).2
