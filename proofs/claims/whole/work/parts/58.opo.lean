/-! level 2: bookTold, line -/
theorem z_tl1 {h : Nat → Nat} {i m : Nat} (hh : ∀ j, j < m → 1 ≤ h j) : ∀ n, 1 ≤ n → i + n ≤ m → 1 ≤ z_tl h i n := by
  intro n h1 h2
  cases n with
  | zero => omega
  | succ n =>
    rw [z_tl]
    have := hh (i + n) (by omega)
    unfold z_mx; split <;> omega
theorem op_bookTold : Op_bookTold Inv := by
  intro n M a b hn hI
  have hI' := hI
  obtain ⟨⟨s, u, hS⟩, -⟩ := hI'
  have hS' := hS
  obtain ⟨hW, hM, hz, c1, c2, c3, c4, hT⟩ := hS
  obtain ⟨w1, w2, w3, w4, w5, w6, w7, w8, w9⟩ := hW.1
  obtain ⟨d1, d2, d3, d4, d5, d6, d7⟩ := c1
  have m4 : M 94 4 = nI (s 4) := hM 4 (by omega) (by omega)
  have m5 : M 94 5 = nI (s 5) := hM 5 (by omega) (by omega)
  have m6 : M 94 6 = nI (s 6) := hM 6 (by omega) (by omega)
  have m7 : M 94 7 = nI (s 7) := hM 7 (by omega) (by omega)
  have h3 := (z_32L hI).2.2.2
  have hfu : 100 < bw_fu := by decide
  have bad : ∀ r, f_X9_bookTold M a b = some (r, M) → f_X10_bookTold M a b = some (r, M) → ∃ (r : Int32) (M1 M2 : Mem), (f_X9_bookTold M a b = some (r, M1)) ∧ (f_X10_bookTold M1 a b = some (r, M2)) ∧ Inv (n + 1) M2 :=
    fun r h1 h2 => ⟨r, M, M, h1, h2, z_nochange hI⟩
  rcases z_wi1 a (s 4) (by omega) with e | ⟨e, j, hj, rfl⟩
  · refine bad (-1000000001) ?_ ?_
    · unfold f_X9_bookTold f_X6_hasBook; rw [d1, if_pos e]
    · unfold f_X10_bookTold f_X10_isBook; rw [z_in, z_c4, m4, if_pos e]
  · have C : f_X9_bookTold M (nI j) b = (if b = (0 : Int32) then some (M 26 j, M) else (if b = (1 : Int32) then some (M 27 j, M) else (if b = (2 : Int32) then some (M 28 j, M) else (if b = (3 : Int32) then some ((if (M 29 j) = 0 then (0 : Int32) else (1 : Int32)), M) else (if b = (4 : Int32) then (f_X2_load M 25).bind fun q13 => (f_X2_settle q13).bind fun q14 => (if q14.1 = 0 then some ((-1000000005 : Int32), q14.2) else (f_X2_lineOf q14.2 (nI j)).bind fun q17 => some (q17, q14.2)) else some ((-1000000001 : Int32), M)))))) := by
      unfold f_X9_bookTold f_X6_hasBook
      rw [d1, e, if_neg (by decide), z_ib (by omega) (by omega), if_pos rfl, if_pos rfl, if_pos rfl, if_pos rfl, nI_clamp (by omega)]
    have D : ∀ M1 : Mem, M1 94 = M 94 → f_X10_bookTold M1 (nI j) b = (if (f_X9_isWithin b (0 : Int32) (4 : Int32)) = 0 then some ((-1000000001 : Int32), M1) else (if (4 : Int32) ≤ b then (f_X10_settles M1).bind fun q6 => (if 0 ≤ (q6 93 16) then some (q6 106 j, q6) else some ((-1000000005 : Int32), q6)) else (f_X10_book4 M1 (nI j) b).bind fun q9 => some (q9, M1))) := by
      intro M1 h94
      unfold f_X10_bookTold f_X10_isBook
      rw [z_in, z_in, z_c4, h94, m4, e, if_neg (by decide), z_ib (by omega) (by omega), nI_clamp (by omega)]
      simp only [if_true]
    rcases z_wi b 0 4 (by omega) (by omega) with o | ⟨o, w, -, hw, rfl⟩
    · rw [← l_0, ← l_4] at o
      have nn : ∀ i, i ≤ 4 → ¬ b = nI i := by
        intro i hi h
        rw [h, l_0, l_4, z_wiN (by omega) (by omega) (by omega), if_pos (by omega)] at o
        exact absurd o (by decide)
      rw [if_neg (show ¬ b = 0 from nn 0 (by omega)), if_neg (show ¬ b = 1 from nn 1 (by omega)), if_neg (show ¬ b = 2 from nn 2 (by omega)), if_neg (show ¬ b = 3 from nn 3 (by omega)), if_neg (show ¬ b = 4 from nn 4 (by omega))] at C
      have D' := D M rfl
      rw [if_pos o] at D'
      exact bad _ C D'
    · rw [← l_0, ← l_4] at o
      obtain ⟨x1, x2, x3, x4⟩ := c2 j hj
      have y4 := (hW.2.1 j hj).2.2.2.2.2
      rcases (by omega : w = 0 ∨ w = 1 ∨ w = 2 ∨ w = 3 ∨ w = 4) with rfl | rfl | rfl | rfl | rfl
      · refine bad (nI (s (14 + 4 * j))) (by rw [C, if_pos (by decide)]; exact congrArg (fun z => some (z, M)) x1) ?_
        rw [D M rfl, o, if_neg (by decide), if_neg (by decide), z_b4 hM (by omega) (by omega)]; rfl
      · refine bad (nI (s (15 + 4 * j))) (by rw [C, if_neg (by decide), if_pos (by decide)]; exact congrArg (fun z => some (z, M)) x2) ?_
        rw [D M rfl, o, if_neg (by decide), if_neg (by decide), z_b4 hM (by omega) (by omega), show 14 + 4 * j + 1 = 15 + 4 * j by omega]; rfl
      · refine bad (nI (s (16 + 4 * j))) (by rw [C, if_neg (by decide), if_neg (by decide), if_pos (by decide)]; exact congrArg (fun z => some (z, M)) x3) ?_
        rw [D M rfl, o, if_neg (by decide), if_neg (by decide), z_b4 hM (by omega) (by omega), show 14 + 4 * j + 2 = 16 + 4 * j by omega]; rfl
      · have dE : (if nI (s (17 + 4 * j)) = 0 then (0 : Int32) else 1) = nI (s (17 + 4 * j)) := by
          rcases (by omega : s (17 + 4 * j) = 0 ∨ s (17 + 4 * j) = 1) with e | e <;> rw [e] <;> rfl
        refine bad (nI (s (17 + 4 * j))) ?_ ?_
        · rw [C, if_neg (by decide), if_neg (by decide), if_neg (by decide), if_pos (by decide), show M 29 j = nI (s (17 + 4 * j)) from x4, dE]
        · rw [D M rfl, o, if_neg (by decide), if_neg (by decide), z_b4 hM (by omega) (by omega), show 14 + 4 * j + 3 = 17 + 4 * j by omega]; rfl
      · obtain ⟨T, hT⟩ : ∃ T, T = z_out (s 4) (s 1) (z_sH s) (z_sT s) (z_sD s) (z_sf (z_sA s) (s 7)) (z_P (z_lw 0 u (s 6)) (s 2)) (s 4) := ⟨_, rfl⟩
        obtain ⟨Sl, hSl⟩ : ∃ Sl, Sl = z_st T.2 (s 4) (s 4 + 1) 0 := ⟨_, rfl⟩
        obtain ⟨hq, ⟨Ml, M1, e1, e2, e3, e4, e5, e6, e7, e8⟩, hm⟩ := z_both hn hI hS' hT hSl
        obtain ⟨q0, M2, f0, f1, f2, f3, f4, f5, f6⟩ := hm M1 e4
        have fi : Inv (n + 1) M2 := z_fin hI e4 (z_PlLok e3 e4) (by rw [e8 11 (by omega) (by omega)]; exact h3) f3 (z_AskMp f0 f2)
        rw [if_neg (by decide), if_neg (by decide), if_neg (by decide), if_neg (by decide), if_pos (by decide), e1, Option.bind_some, e2, Option.bind_some] at C
        have D' := D M1 (e4.1 94 (by omega))
        rw [o, if_neg (by decide), if_pos (by decide), f1, Option.bind_some, f4] at D'
        cases hq0 : T.1 0 with
        | none =>
          rw [hq0] at D'
          refine ⟨-1000000005, M1, M2, ?_, ?_, fi⟩
          · rw [C, if_pos (show (if T.1 0 = none then (0 : Int32) else 1) = 0 by rw [if_pos hq0])]
          · rw [D', if_neg (by decide)]
        | some q =>
          have nn : ¬ T.1 0 = none := by rw [hq0]; simp
          have qb := hq q hq0
          obtain ⟨hl, -⟩ := z_LnI hT hSl nn
          obtain ⟨e6a, e6b⟩ := e6 nn
          obtain ⟨f5a, f5b, f5c⟩ := f5 nn
          obtain ⟨k, k1, k2, k3⟩ := z_LnE hl hj
          have sl := hl.1
          rw [hq0] at D'
          refine ⟨nI k, M1, M2, ?_, ?_, fi⟩
          · rw [C, if_neg (show ¬ (if T.1 0 = none then (0 : Int32) else 1) = 0 by rw [if_neg nn]; decide)]
            have q := z_cLo (M := M1) w1 hl e6a e6b (b := j) k1 k2 k3 k 0 bw_fu (by omega) (by omega)
            rw [← l_0] at q
            have : f_X2_lineOf M1 (nI j) = some (nI k) := q
            rw [this]; rfl
          · rw [D', if_pos (show 0 ≤ z_oI (some q) from nI_pos' (by omega)), f5c k k1 j k2 k3]
