/-! level 2: writing to the stock; book, tie, seed, set -/
theorem l_0 : (0 : Int32) = nI 0 := rfl
theorem l_1 : (1 : Int32) = nI 1 := rfl
theorem l_2 : (2 : Int32) = nI 2 := rfl
theorem l_3 : (3 : Int32) = nI 3 := rfl
theorem l_4 : (4 : Int32) = nI 4 := rfl
theorem l_5 : (5 : Int32) = nI 5 := rfl
theorem l_6 : (6 : Int32) = nI 6 := rfl
theorem l_7 : (7 : Int32) = nI 7 := rfl
theorem l_8 : (8 : Int32) = nI 8 := rfl
theorem l_9 : (9 : Int32) = nI 9 := rfl
theorem l_10 : (10 : Int32) = nI 10 := rfl
theorem l_11 : (11 : Int32) = nI 11 := rfl
theorem l_12 : (12 : Int32) = nI 12 := rfl
theorem l_13 : (13 : Int32) = nI 13 := rfl
theorem l_14 : (14 : Int32) = nI 14 := rfl
theorem l_15 : (15 : Int32) = nI 15 := rfl
theorem l_16 : (16 : Int32) = nI 16 := rfl
theorem l_17 : (17 : Int32) = nI 17 := rfl
theorem l_18 : (18 : Int32) = nI 18 := rfl
theorem l_19 : (19 : Int32) = nI 19 := rfl
theorem l_20 : (20 : Int32) = nI 20 := rfl
theorem l_21 : (21 : Int32) = nI 21 := rfl
theorem l_22 : (22 : Int32) = nI 22 := rfl
theorem l_23 : (23 : Int32) = nI 23 := rfl
theorem l_24 : (24 : Int32) = nI 24 := rfl
theorem l_25 : (25 : Int32) = nI 25 := rfl
theorem l_26 : (26 : Int32) = nI 26 := rfl
theorem l_27 : (27 : Int32) = nI 27 := rfl
theorem l_28 : (28 : Int32) = nI 28 := rfl
theorem l_29 : (29 : Int32) = nI 29 := rfl
theorem l_30 : (30 : Int32) = nI 30 := rfl
theorem l_31 : (31 : Int32) = nI 31 := rfl
theorem l_33 : (33 : Int32) = nI 33 := rfl
theorem l_38 : (38 : Int32) = nI 38 := rfl
theorem l_40 : (40 : Int32) = nI 40 := rfl
theorem l_41 : (41 : Int32) = nI 41 := rfl
theorem l_42 : (42 : Int32) = nI 42 := rfl
theorem l_43 : (43 : Int32) = nI 43 := rfl
theorem l_45 : (45 : Int32) = nI 45 := rfl
theorem l_47 : (47 : Int32) = nI 47 := rfl
theorem l_48 : (48 : Int32) = nI 48 := rfl
theorem l_57 : (57 : Int32) = nI 57 := rfl
theorem l_60 : (60 : Int32) = nI 60 := rfl
theorem l_61 : (61 : Int32) = nI 61 := rfl
theorem l_62 : (62 : Int32) = nI 62 := rfl
theorem l_96 : (96 : Int32) = nI 96 := rfl
theorem l_97 : (97 : Int32) = nI 97 := rfl
theorem l_99 : (99 : Int32) = nI 99 := rfl
theorem l_100 : (100 : Int32) = nI 100 := rfl
theorem l_101 : (101 : Int32) = nI 101 := rfl
theorem l_104 : (104 : Int32) = nI 104 := rfl
theorem l_108 : (108 : Int32) = nI 108 := rfl
theorem l_110 : (110 : Int32) = nI 110 := rfl
theorem l_112 : (112 : Int32) = nI 112 := rfl
theorem l_121 : (121 : Int32) = nI 121 := rfl
theorem l_122 : (122 : Int32) = nI 122 := rfl
theorem l_124 : (124 : Int32) = nI 124 := rfl
theorem l_158 : (158 : Int32) = nI 158 := rfl
theorem l_186 : (186 : Int32) = nI 186 := rfl
theorem l_255 : (255 : Int32) = nI 255 := rfl
theorem l_336 : (336 : Int32) = nI 336 := rfl
theorem l_999 : (999 : Int32) = nI 999 := rfl
theorem l_1000 : (1000 : Int32) = nI 1000 := rfl
theorem l_1530 : (1530 : Int32) = nI 1530 := rfl
theorem l_9999 : (9999 : Int32) = nI 9999 := rfl
theorem l_10000 : (10000 : Int32) = nI 10000 := rfl
theorem l_99999 : (99999 : Int32) = nI 99999 := rfl
theorem z_neI {a b : Nat} (h : a ≠ b) (ha : a < 2 ^ 31) (hb : b < 2 ^ 31) : ¬ nI a = nI b := fun e => h ((nI_eq ha hb).mp e)
theorem z_nz0 : bw_nz (nI 0) = nI 0 := by decide
theorem z_nz1 : bw_nz (nI 1) = nI 1 := by decide
def z_su (s : Nat → Nat) (a v : Nat) : Nat → Nat := fun i => if i = a then v else s i
theorem z_su_a (s : Nat → Nat) (a v i : Nat) : z_su s a v i = if i = a then v else s i := rfl
theorem z_MR_up {M : Mem} {R : Nat} {s : Nat → Nat} {a v : Nat} (h : z_MR M R s) : z_MR (bw_up M R a (nI v)) R (z_su s a v) := by
  intro i h1 h2
  rw [z_up, z_su_a]
  by_cases e : i = a
  · simp [e]
  · simp [e, h i h1 h2]
def z_C (M : Mem) (S : Nat) (s : Nat → Nat) : Prop := z_CN M S s ∧ z_CB M S s ∧ z_CD M S s ∧ z_CA M S s
theorem z_Stk_mk {M M' : Mem} {s s' : Nat → Nat} {u : Nat → TU} (h : z_Stk M 25 94 s u) (hW : z_W s') (hM : z_MR M' 94 s') (hz : M' 25 8 = M' 94 0) (hC : z_C M' 25 s') (h6 : s' 6 = s 6) (h32 : M' 32 = M 32) (hR : ∀ i, 158 ≤ i → M' 94 i = M 94 i) (hL : z_LE M M') : z_Stk M' 25 94 s' u := by
  obtain ⟨-, -, -, -, -, -, -, h8⟩ := h
  refine ⟨hW, hM, hz, hC.1, hC.2.1, hC.2.2.1, hC.2.2.2, ?_⟩
  intro t ht
  rw [h6] at ht
  obtain ⟨g1, g2, g3, g4, g5, g6⟩ := h8 t ht
  refine ⟨by rw [h32]; exact g1, g2, z_Law_fr hL g3, ?_, ?_, ?_⟩
  · rw [hR _ (by omega)]; exact g4
  · rw [hR _ (by omega)]; exact g5
  · intro k hk; rw [hR _ (by omega)]; exact g6 k hk
def z_Oth (M M' : Mem) : Prop := ∀ k, k < 25 ∨ (44 < k ∧ k ≠ 94) → M' k = M k
theorem z_Oth_LE {M M' : Mem} (h : z_Oth M M') : z_LE M M' := fun c => ⟨h _ (by omega), h _ (by omega), by rw [h _ (by omega)]⟩
theorem z_Inv_stk {M M' : Mem} {n : Nat} (hI : Inv n M) (ho : z_Oth M M') (hs : ∃ s u, z_Stk M' 25 94 s u) (h32 : ∀ i, i < 14 → z_Lok M (M' 32 i)) : Inv (n + 1) M' := by
  obtain ⟨-, b, c, d, e, f, g, i, ⟨⟨x, hx, hx2, hx3⟩, h4, h5, h6⟩⟩ := hI
  have hL := z_Oth_LE ho
  obtain ⟨q, hq, i1, i2⟩ := i
  have o0 : M' 0 = M 0 := ho 0 (by omega)
  have o93 : M' 93 = M 93 := ho 93 (by omega)
  refine ⟨hs, z_Img_fr (by rw [o0]) (by rw [o93]) (ho _ (by omega)) (fun k h h' => ho k (by omega)) hL b, z_Tap_fr (by rw [ho _ (by omega)]) (by rw [o93]) (ho _ (by omega)) (ho _ (by omega)) c, z_Key_fr (ho _ (by omega)) (ho _ (by omega)) d, z_Sht_fr (fun k h h' => ho k (by omega)) (ho _ (by omega)) (ho _ (by omega)) (ho _ (by omega)) e, z_Slt_fr (fun k h h' => ho k (by omega)) (ho _ (by omega)) (ho _ (by omega)) (ho _ (by omega)) (ho _ (by omega)) f, z_Wai_fr (by rw [o0]) (by rw [o93]) (ho _ (by omega)) (ho _ (by omega)) g, ?_, ?_, ?_, ?_, ?_⟩
  · exact z_Ask_fr (by rw [o93]) (ho _ (by omega)) ⟨q, by omega, i1, i2⟩
  · exact ⟨x, by omega, hx2, by rw [o0]; exact hx3⟩
  · intro i hi
    refine ⟨?_, ?_⟩
    · unfold z_Lok; rw [o0]; exact h32 i hi
    · unfold z_Lok; rw [o0, ho 52 (by omega)]; exact (h4 i hi).2
  · unfold z_Lok; rw [o0, ho 1 (by omega)]; exact h5
  · unfold z_Lok; rw [o0, ho 11 (by omega)]; exact h6
theorem z_wiN {j a b : Nat} (hj : j < 2 ^ 31) (ha : a < 2 ^ 31) (hb : b < 2 ^ 31) : f_X9_isWithin (nI j) (nI a) (nI b) = if a ≤ j ∧ j ≤ b then 1 else 0 := by
  unfold f_X9_isWithin
  by_cases h1 : j < a
  · rw [if_pos (nI_lt h1 ha), if_neg (by omega)]
  · rw [if_neg (nI_nlt (by omega) hj)]
    by_cases h2 : b < j
    · rw [if_pos (nI_lt h2 hj), if_neg (by omega)]
    · rw [if_neg (nI_nlt (by omega) hb), if_pos (by omega)]
theorem z_size (x : Int32) : (f_X9_isSize x = 0 ∧ f_X10_isSize x = 0) ∨ (f_X9_isSize x = 1 ∧ f_X10_isSize x = 1 ∧ ∃ h t, 1 ≤ h ∧ h ≤ 99 ∧ 1 ≤ t ∧ t ≤ 99 ∧ x / 100 = nI h ∧ bw_rem x 100 = nI t) := by
  unfold f_X9_isSize f_X10_isSize
  rw [z_in]
  have k1 := z_wi x 101 9999 (by omega) (by omega)
  have k2 := z_wi x 100 9999 (by omega) (by omega)
  rw [← l_101, ← l_9999] at k1
  rw [← l_100, ← l_9999] at k2
  rcases k2 with g | ⟨g, j, g1, g2, rfl⟩
  · left
    rcases k1 with h | ⟨h, j, h1, h2, rfl⟩
    · simp [h, g]
    · rw [l_100, l_9999, z_wiN (by omega) (by omega) (by omega), if_pos (by omega)] at g
      exact absurd g (by decide)
  · have e1 : nI j / nI 100 = nI (j / 100) := pk_div (by omega) (by omega) (by omega)
    have e2 : bw_rem (nI j) (nI 100) = nI (j % 100) := pk_rem (by omega) (by omega) (by omega)
    have e3 : f_X9_isWithin (nI j) (nI 101) (nI 9999) = if 101 ≤ j ∧ j ≤ 9999 then 1 else 0 := z_wiN (by omega) (by omega) (by omega)
    rw [← l_100] at e1 e2
    rw [← l_101, ← l_9999] at e3
    rw [g, e1, e2, e3]
    by_cases e : j % 100 = 0
    · left
      rw [e]
      refine ⟨?_, by decide⟩
      split
      · rfl
      · decide
    · right
      have n1 : ¬ nI (j % 100) = 0 := z_neI (a := j % 100) (b := 0) e (by omega) (by omega)
      have n2 : ¬ nI (j % 100) ≤ 0 := nI_nle (by omega) (by omega)
      rw [if_pos (show 101 ≤ j ∧ j ≤ 9999 by omega), if_neg n1, if_neg n2]
      exact ⟨by decide, by decide, j / 100, j % 100, by omega, by omega, by omega, by omega, rfl, rfl⟩
def z_sb (s : Nat → Nat) (h t p : Nat) : Nat → Nat := z_su (z_su (z_su (z_su (z_su s (14 + 4 * s 4) h) (15 + 4 * s 4) t) (16 + 4 * s 4) p) (17 + 4 * s 4) 0) 4 (s 4 + 1)
def z_cab (M : Mem) (k h t p : Nat) : Mem := bw_up (bw_up (bw_up (bw_up (bw_up M 26 k (nI h)) 27 k (nI t)) 28 k (nI p)) 29 k (nI 0)) 25 0 (nI (k + 1))
def z_mab (M : Mem) (k h t p : Nat) : Mem := bw_up (bw_up (bw_up (bw_up (bw_up M 94 (14 + 4 * k) (nI h)) 94 (15 + 4 * k) (nI t)) 94 (16 + 4 * k) (nI p)) 94 (17 + 4 * k) (nI 0)) 94 4 (nI (k + 1))
theorem z_cAdd {M : Mem} {s : Nat → Nat} {h t p : Nat} (hC : M 25 0 = nI (s 4)) (hs : s 4 < 24) : f_X6_addBook M 25 (nI h) (nI t) (nI p) = some (nI (s 4), z_cab M (s 4) h t p) := by
  simp (disch := omega) only [f_X6_addBook, z_cab, hC, z_nz0, l_0, l_1, l_2, l_3, l_4, l_5, l_6, l_7, l_8, l_9, l_10, l_11, l_12, l_13, l_14, l_15, l_16, l_17, l_18, l_19, l_20, l_21, l_22, l_23, l_24, l_25, l_26, l_27, l_28, l_29, l_30, l_31, l_33, l_38, l_40, l_41, l_42, l_43, l_45, l_47, l_48, l_57, l_60, l_61, l_62, l_96, l_97, l_99, l_100, l_101, l_104, l_108, l_110, l_112, l_121, l_122, l_124, l_158, l_186, l_255, l_336, l_999, l_1000, l_1530, l_9999, l_10000, l_99999, z_ml, nI_add, pk_sub, pk_mul, nI_clamp, nI_ltI, nI_leI, nI_eq, z_ib, z_in, z_up, z_up_k, if_pos, if_neg, ite_true, ite_false, and_self, and_true, true_and, and_false, false_and, Nat.add_sub_cancel, Nat.reduceAdd, Nat.reduceMul, Option.bind_some, eq_self]
theorem z_mAdd {M : Mem} {s : Nat → Nat} {h t p : Nat} (hC : M 94 4 = nI (s 4)) (hs : s 4 < 24) : f_X10_comes M (nI h) (nI t) (nI p) = some (z_mab M (s 4) h t p) := by
  have e1 : 14 + 4 * s 4 + 1 = 15 + 4 * s 4 := by omega
  have e2 : 14 + 4 * s 4 + 2 = 16 + 4 * s 4 := by omega
  have e3 : 14 + 4 * s 4 + 3 = 17 + 4 * s 4 := by omega
  simp (disch := omega) only [f_X10_comes, z_mab, hC, e1, e2, e3, l_0, l_1, l_2, l_3, l_4, l_5, l_6, l_7, l_8, l_9, l_10, l_11, l_12, l_13, l_14, l_15, l_16, l_17, l_18, l_19, l_20, l_21, l_22, l_23, l_24, l_25, l_26, l_27, l_28, l_29, l_30, l_31, l_33, l_38, l_40, l_41, l_42, l_43, l_45, l_47, l_48, l_57, l_60, l_61, l_62, l_96, l_97, l_99, l_100, l_101, l_104, l_108, l_110, l_112, l_121, l_122, l_124, l_158, l_186, l_255, l_336, l_999, l_1000, l_1530, l_9999, l_10000, l_99999, z_ml, nI_add, pk_sub, pk_mul, nI_clamp, nI_ltI, nI_leI, nI_eq, z_ib, z_in, z_up, z_up_k, if_pos, if_neg, ite_true, ite_false, and_self, and_true, true_and, and_false, false_and, Nat.add_sub_cancel, Nat.reduceAdd, Nat.reduceMul, Option.bind_some, eq_self]
theorem z_cab_C {M : Mem} {s : Nat → Nat} {h t p : Nat} (hC : z_C M 25 s) (hW : z_WN s) (hs : s 4 < 24) : z_C (z_cab M (s 4) h t p) 25 (z_sb s h t p) := by
  obtain ⟨⟨h0, h5, h6, h7, h9, h11, h13⟩, hB, hD, hA⟩ := hC
  obtain ⟨w1, w2, w3, w4, -⟩ := hW
  have e4 : z_sb s h t p 4 = s 4 + 1 := by simp (disch := omega) only [z_sb, z_su_a, if_pos, if_neg, ite_true, ite_false, and_self, and_true, true_and, and_false, false_and]
  have e5 : z_sb s h t p 5 = s 5 := by simp (disch := omega) only [z_sb, z_su_a, if_pos, if_neg, ite_true, ite_false, and_self, and_true, true_and, and_false, false_and]
  have e7 : z_sb s h t p 7 = s 7 := by simp (disch := omega) only [z_sb, z_su_a, if_pos, if_neg, ite_true, ite_false, and_self, and_true, true_and, and_false, false_and]
  refine ⟨?_, ?_, ?_, ?_⟩
  · simp (disch := omega) only [z_CN, z_cab, z_up, z_sb, z_su_a, if_pos, if_neg, ite_true, ite_false, and_self, and_true, true_and, and_false, false_and]
    exact ⟨h5, h6, h7, h9, h11, h13⟩
  · intro i hi
    rw [e4] at hi
    by_cases e : i = s 4
    · subst e
      simp (disch := omega) only [z_cab, z_up, z_sb, z_su_a, if_pos, if_neg, ite_true, ite_false, and_self, and_true, true_and, and_false, false_and]
    · obtain ⟨b1, b2, b3, b4⟩ := hB i (by omega)
      simp (disch := omega) only [z_cab, z_up, z_sb, z_su_a, if_pos, if_neg, ite_true, ite_false, and_self, and_true, true_and, and_false, false_and]
      exact ⟨b1, b2, b3, b4⟩
  · intro i hi
    rw [e5] at hi
    simp (disch := omega) only [z_cab, z_up, z_sb, z_su_a, if_pos, if_neg, ite_true, ite_false, and_self, and_true, true_and, and_false, false_and]
    exact hD i hi
  · intro i hi
    rw [e7] at hi
    simp (disch := omega) only [z_cab, z_up, z_sb, z_su_a, if_pos, if_neg, ite_true, ite_false, and_self, and_true, true_and, and_false, false_and]
    exact hA i hi
theorem z_sb_W {s : Nat → Nat} {h t p : Nat} (hW : z_W s) (hs : s 4 < 24) (h1 : 1 ≤ h) (h2 : h ≤ 99) (h3 : 1 ≤ t) (h4 : t ≤ 99) (h5 : p ≤ 7) : z_W (z_sb s h t p) := by
  obtain ⟨hN, hB, hD, hA⟩ := hW
  obtain ⟨w1, w2, w3, w4, w5, w6, w7, w8, w9⟩ := hN
  have e4 : z_sb s h t p 4 = s 4 + 1 := by simp (disch := omega) only [z_sb, z_su_a, if_pos, if_neg, ite_true, ite_false, and_self, and_true, true_and, and_false, false_and]
  have e5 : z_sb s h t p 5 = s 5 := by simp (disch := omega) only [z_sb, z_su_a, if_pos, if_neg, ite_true, ite_false, and_self, and_true, true_and, and_false, false_and]
  have e7 : z_sb s h t p 7 = s 7 := by simp (disch := omega) only [z_sb, z_su_a, if_pos, if_neg, ite_true, ite_false, and_self, and_true, true_and, and_false, false_and]
  refine ⟨?_, ?_, ?_, ?_⟩
  · simp (disch := omega) only [z_WN, z_sb, z_su_a, if_pos, if_neg, ite_true, ite_false, and_self, and_true, true_and, and_false, false_and]
    omega
  · intro i hi
    rw [e4] at hi
    by_cases e : i = s 4
    · subst e
      simp (disch := omega) only [z_sb, z_su_a, if_pos, if_neg, ite_true, ite_false, and_self, and_true, true_and, and_false, false_and]
      omega
    · have := hB i (by omega)
      simp (disch := omega) only [z_sb, z_su_a, if_pos, if_neg, ite_true, ite_false, and_self, and_true, true_and, and_false, false_and]
      omega
  · intro i hi
    rw [e5] at hi
    have := hD i hi
    simp (disch := omega) only [z_sb, z_su_a, if_pos, if_neg, ite_true, ite_false, and_self, and_true, true_and, and_false, false_and]
    omega
  · intro i hi
    rw [e7] at hi
    have := hA i hi
    simp (disch := omega) only [z_sb, z_su_a, if_pos, if_neg, ite_true, ite_false, and_self, and_true, true_and, and_false, false_and]
    omega
theorem z_mab_MR {M : Mem} {s : Nat → Nat} {h t p : Nat} (hM : z_MR M 94 s) : z_MR (z_mab M (s 4) h t p) 94 (z_sb s h t p) := z_MR_up (z_MR_up (z_MR_up (z_MR_up (z_MR_up hM))))
theorem z_nochange {n : Nat} {M : Mem} (h : Inv n M) : Inv (n + 1) M := Inv_mono n M h
/-- a book comes to both sides -/
theorem z_ab {n : Nat} {M : Mem} {s : Nat → Nat} {u : Nat → TU} {h t p : Nat} (hS : z_Stk M 25 94 s u) (hs : s 4 < 24) (h1 : 1 ≤ h) (h2 : h ≤ 99) (h3 : 1 ≤ t) (h4 : t ≤ 99) (h5 : p ≤ 7) : z_Stk (z_mab (z_cab M (s 4) h t p) (s 4) h t p) 25 94 (z_sb s h t p) u := by
  have hS' := hS
  obtain ⟨hW, hM, hz, c1, c2, c3, c4, hT⟩ := hS
  refine z_Stk_mk hS' (z_sb_W hW hs h1 h2 h3 h4 h5) ?_ ?_ ?_ ?_ ?_ ?_ ?_
  · refine z_mab_MR ?_
    intro i g1 g2
    simp (disch := omega) only [z_cab, z_up, if_pos, if_neg, ite_true, ite_false, and_self, and_true, true_and, and_false, false_and]
    exact hM i g1 g2
  · simp (disch := omega) only [z_mab, z_cab, z_up, if_pos, if_neg, ite_true, ite_false, and_self, and_true, true_and, and_false, false_and]
    exact hz
  · have := z_cab_C (h := h) (t := t) (p := p) ⟨c1, c2, c3, c4⟩ hW.1 hs
    obtain ⟨d1, d2, d3, d4⟩ := this
    refine ⟨?_, ?_, ?_, ?_⟩
    · simp (disch := omega) only [z_CN, z_mab, z_up_k] at d1 ⊢
      exact d1
    · simp (disch := omega) only [z_CB, z_mab, z_up_k] at d2 ⊢
      exact d2
    · intro i hi
      have := d3 i hi
      have w : z_sb s h t p 5 = s 5 := by simp (disch := omega) only [z_sb, z_su_a, if_pos, if_neg, ite_true, ite_false, and_self, and_true, true_and, and_false, false_and]
      have w2 : s 5 ≤ 12 := hW.1.2.1
      simp (disch := omega) only [z_mab, z_up_k] at this ⊢
      exact this
    · simp (disch := omega) only [z_CA, z_mab, z_up_k] at d4 ⊢
      exact d4
  · simp (disch := omega) only [z_sb, z_su_a, if_pos, if_neg, ite_true, ite_false, and_self, and_true, true_and, and_false, false_and]
  · simp (disch := omega) only [z_mab, z_cab, z_up_k]
  · intro i hi
    simp (disch := omega) only [z_mab, z_cab, z_up, if_pos, if_neg, ite_true, ite_false, and_self, and_true, true_and, and_false, false_and]
  · intro c
    simp (disch := omega) only [z_mab, z_cab, z_up_k, and_self]
theorem op_book : Op_book Inv := by
  intro n M a b hn hI
  have hI' := hI
  obtain ⟨⟨s, u, hS⟩, -, -, -, -, -, -, -, hL⟩ := hI'
  have hS' := hS
  obtain ⟨hW, hM, hz, c1, c2, c3, c4, hT⟩ := hS
  have w4 : s 4 ≤ 24 := hW.1.1
  have m4 : M 94 4 = nI (s 4) := hM 4 (by omega) (by omega)
  have k0 : M 25 0 = nI (s 4) := c1.1
  have q7 := z_wi b 0 7 (by omega) (by omega)
  unfold f_X9_book f_X10_book
  rcases z_size a with ⟨g1, g2⟩ | ⟨g1, g2, h, t, g3, g4, g5, g6, g7, g8⟩
  · refine ⟨_, M, M, by rw [if_pos g1], by rw [if_pos g2], z_nochange hI⟩
  · rw [g1, g2, if_neg (by decide)]
    rw [← l_0, ← l_7] at q7
    rcases q7 with e | ⟨e, p, -, p2, rfl⟩
    · refine ⟨_, M, M, by rw [if_pos e], by rw [if_neg (by decide), z_in, if_pos e], z_nochange hI⟩
    · rw [e, if_neg (by decide), g7, g8, k0]
      by_cases hs : s 4 < 24
      · rw [z_cAdd k0 hs, l_24, if_pos (nI_lt (by omega) (by omega))]
        refine ⟨nI (s 4), z_cab M (s 4) h t p, z_mab (z_cab M (s 4) h t p) (s 4) h t p, rfl, ?_, ?_⟩
        · have m5 : z_cab M (s 4) h t p 94 4 = nI (s 4) := by
            simp (disch := omega) only [z_cab, z_up, if_pos, if_neg, ite_true, ite_false, and_self, and_true, true_and, and_false, false_and]; exact m4
          rw [if_neg (by decide), z_in, e, if_neg (by decide), z_mAdd m5 hs]
          simp (disch := omega) only [m5, l_0, l_1, l_2, l_3, l_4, l_5, l_6, l_7, l_8, l_9, l_10, l_11, l_12, l_13, l_14, l_15, l_16, l_17, l_18, l_19, l_20, l_21, l_22, l_23, l_24, l_25, l_26, l_27, l_28, l_29, l_30, l_31, l_33, l_38, l_40, l_41, l_42, l_43, l_45, l_47, l_48, l_57, l_60, l_61, l_62, l_96, l_97, l_99, l_100, l_101, l_104, l_108, l_110, l_112, l_121, l_122, l_124, l_158, l_186, l_255, l_336, l_999, l_1000, l_1530, l_9999, l_10000, l_99999, z_ml, nI_add, pk_sub, pk_mul, nI_clamp, nI_ltI, nI_leI, nI_eq, z_ib, z_in, z_up, z_up_k, if_pos, if_neg, ite_true, ite_false, and_self, and_true, true_and, and_false, false_and, Nat.add_sub_cancel, Nat.reduceAdd, Nat.reduceMul, Option.bind_some, eq_self]
          simp (disch := omega) only [z_mab, l_0, l_1, l_2, l_3, l_4, l_5, l_6, l_7, l_8, l_9, l_10, l_11, l_12, l_13, l_14, l_15, l_16, l_17, l_18, l_19, l_20, l_21, l_22, l_23, l_24, l_25, l_26, l_27, l_28, l_29, l_30, l_31, l_33, l_38, l_40, l_41, l_42, l_43, l_45, l_47, l_48, l_57, l_60, l_61, l_62, l_96, l_97, l_99, l_100, l_101, l_104, l_108, l_110, l_112, l_121, l_122, l_124, l_158, l_186, l_255, l_336, l_999, l_1000, l_1530, l_9999, l_10000, l_99999, z_ml, nI_add, pk_sub, pk_mul, nI_clamp, nI_ltI, nI_leI, nI_eq, z_ib, z_in, z_up, z_up_k, if_pos, if_neg, ite_true, ite_false, and_self, and_true, true_and, and_false, false_and, Nat.add_sub_cancel, Nat.reduceAdd, Nat.reduceMul, Option.bind_some, eq_self]
        · refine z_Inv_stk hI ?_ ⟨_, _, z_ab (n := n) hS' hs g3 g4 g5 g6 p2⟩ ?_
          · intro k hk
            simp (disch := omega) only [z_mab, z_cab, z_up_k]
          · intro i hi
            simp (disch := omega) only [z_mab, z_cab, z_up_k]
            exact (hL.2.1 i hi).1
      · have : s 4 = 24 := by omega
        refine ⟨_, M, M, by rw [l_24, if_neg (nI_nlt (by omega) (by omega))], ?_, z_nochange hI⟩
        rw [if_neg (by decide), z_in, e, if_neg (by decide), if_pos]
        rw [show ((4 : Int32).toNatClampNeg) = 4 from rfl, m4, this]; rfl
