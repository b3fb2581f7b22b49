/-! level 2: judge, wall, why, textTold -/
theorem z_jA {M : Mem} {s : Nat → Nat} {u : Nat → TU} (hS : z_Stk M 25 94 s u) : ∀ r i fu, i + r = s 5 → r < fu → ∃ x, f_X6_firstBoardNotGood_L2 M 25 fu (nI i) = some x ∧ f_X10_firstBad_L2 M fu (nI i) = some x := by
  have w2 : s 5 ≤ 12 := hS.1.1.2.1
  have d5 : M 25 9 = nI (s 5) := hS.2.2.2.1.2.2.2.2.1
  have m5 : M 94 5 = nI (s 5) := hS.2.1 5 (by omega) (by omega)
  intro r
  induction r with
  | zero =>
    intro i fu h1 h2
    obtain ⟨fu, rfl⟩ : ∃ f, fu = f + 1 := ⟨fu - 1, by omega⟩
    rw [f_X6_firstBoardNotGood_L2, f_X10_firstBad_L2, z_c5, d5, m5, if_pos (nI_le (by omega) (by omega)), if_pos (nI_le (by omega) (by omega))]
    exact ⟨_, rfl, rfl⟩
  | succ r ih =>
    intro i fu h1 h2
    obtain ⟨fu, rfl⟩ : ∃ f, fu = f + 1 := ⟨fu - 1, by omega⟩
    obtain ⟨q, g1, g2⟩ := z_gooE hS (j := i) (by omega)
    obtain ⟨x, e1, e2⟩ := ih (i + 1) fu (by omega) (by omega)
    rw [f_X6_firstBoardNotGood_L2, f_X10_firstBad_L2, z_c5, d5, m5, if_neg (nI_ge (by omega) (by omega)), if_neg (nI_ge (by omega) (by omega)), z_ib (by omega) (by omega), if_pos rfl, nI_clamp (by omega), show 25 + 8 + i = 33 + i by omega, g1, g2, Option.bind_some, Option.bind_some, nI_1, e1, e2]
    by_cases g : q = 0
    · rw [if_pos g]; exact ⟨_, rfl, rfl⟩
    · rw [if_neg g]; exact ⟨_, rfl, rfl⟩
theorem z_jB {M : Mem} {s : Nat → Nat} {u : Nat → TU} (hS : z_Stk M 25 94 s u) (v : Int32) : ∀ r i fu a, i + r = s 5 → r < fu → ∃ x, f_X6_boardsWith_L4 M 25 v fu a (nI i) = some x ∧ f_X10_firstLoose_L16 M v fu a (nI i) = some x := by
  have w2 : s 5 ≤ 12 := hS.1.1.2.1
  have d5 : M 25 9 = nI (s 5) := hS.2.2.2.1.2.2.2.2.1
  have m5 : M 94 5 = nI (s 5) := hS.2.1 5 (by omega) (by omega)
  intro r
  induction r with
  | zero =>
    intro i fu a h1 h2
    obtain ⟨fu, rfl⟩ : ∃ f, fu = f + 1 := ⟨fu - 1, by omega⟩
    rw [f_X6_boardsWith_L4, f_X10_firstLoose_L16, z_c5, d5, m5, if_pos (nI_le (by omega) (by omega)), if_pos (nI_le (by omega) (by omega))]
    exact ⟨_, rfl, rfl⟩
  | succ r ih =>
    intro i fu a h1 h2
    obtain ⟨fu, rfl⟩ : ∃ f, fu = f + 1 := ⟨fu - 1, by omega⟩
    obtain ⟨k, f, l, hh, hk, hf, hl, b0, b1, b2, b3, m0, m1, m2, m3⟩ := z_bf hS (j := i) (by omega)
    rw [f_X6_boardsWith_L4, f_X10_firstLoose_L16, z_c5, d5, m5, if_neg (nI_ge (by omega) (by omega)), if_neg (nI_ge (by omega) (by omega)), z_ib (by omega) (by omega), if_pos rfl, nI_clamp (by omega), show 25 + 8 + i = 33 + i by omega, b1, b2, m1, m2, Option.bind_some, Option.bind_some, z_in, z_ml, z_ml, nI_1]
    exact ih (i + 1) fu _ (by omega) (by omega)
theorem z_jC {M : Mem} {s : Nat → Nat} {u : Nat → TU} (hS : z_Stk M 25 94 s u) : ∀ r i fu, i + r = s 4 → r < fu → ∃ x, f_X6_firstBookAmiss_L2 M 25 fu (nI i) = some x ∧ f_X10_firstLoose_L2 M fu (nI i) = some x := by
  have w1 : s 4 ≤ 24 := hS.1.1.1
  have w2 : s 5 ≤ 12 := hS.1.1.2.1
  have d1 : M 25 0 = nI (s 4) := hS.2.2.2.1.1
  have m4 : M 94 4 = nI (s 4) := hS.2.1 4 (by omega) (by omega)
  have hfu : 30 < bw_fu := by decide
  intro r
  induction r with
  | zero =>
    intro i fu h1 h2
    obtain ⟨fu, rfl⟩ : ∃ f, fu = f + 1 := ⟨fu - 1, by omega⟩
    rw [f_X6_firstBookAmiss_L2, f_X10_firstLoose_L2, z_c4, d1, m4, if_pos (nI_le (by omega) (by omega)), if_pos (nI_le (by omega) (by omega))]
    exact ⟨_, rfl, rfl⟩
  | succ r ih =>
    intro i fu h1 h2
    obtain ⟨fu, rfl⟩ : ∃ f, fu = f + 1 := ⟨fu - 1, by omega⟩
    obtain ⟨q, g1, g2⟩ := z_jB hS (nI i) (s 5) 0 bw_fu 0 (by omega) (by omega)
    obtain ⟨x, e1, e2⟩ := ih (i + 1) fu (by omega) (by omega)
    have g1' : f_X6_boardsWith M 25 (nI i) = some q := g1
    have g2' : f_X10_firstLoose_L16 M (nI i) bw_fu 0 0 = some q := g2
    rw [f_X6_firstBookAmiss_L2, f_X10_firstLoose_L2, z_c4, d1, m4, if_neg (nI_ge (by omega) (by omega)), if_neg (nI_ge (by omega) (by omega)), g1', g2', Option.bind_some, Option.bind_some, nI_1, e1, e2]
    by_cases g : q = 1
    · rw [if_pos g]; exact ⟨_, rfl, rfl⟩
    · rw [if_neg g]; exact ⟨_, rfl, rfl⟩
theorem z_jD {M : Mem} {s : Nat → Nat} {u : Nat → TU} (hS : z_Stk M 25 94 s u) : ∀ r i fu a, i + r = s 5 → r < fu → ∃ x, f_X6_heightOfBoards_L4 M 25 fu a (nI i) = some x ∧ f_X10_judge_L37 M fu a (nI i) = some x := by
  have w2 : s 5 ≤ 12 := hS.1.1.2.1
  have d5 : M 25 9 = nI (s 5) := hS.2.2.2.1.2.2.2.2.1
  have m5 : M 94 5 = nI (s 5) := hS.2.1 5 (by omega) (by omega)
  have d6 : M 25 6 = nI (s 2) := hS.2.2.2.1.2.2.1
  have m2 : M 94 (2 : Int32).toNatClampNeg = nI (s 2) := hS.2.1 2 (by omega) (by omega)
  intro r
  induction r with
  | zero =>
    intro i fu a h1 h2
    obtain ⟨fu, rfl⟩ : ∃ f, fu = f + 1 := ⟨fu - 1, by omega⟩
    rw [f_X6_heightOfBoards_L4, f_X10_judge_L37, z_c5, d5, m5, if_pos (nI_le (by omega) (by omega)), if_pos (nI_le (by omega) (by omega))]
    exact ⟨_, rfl, rfl⟩
  | succ r ih =>
    intro i fu a h1 h2
    obtain ⟨fu, rfl⟩ : ∃ f, fu = f + 1 := ⟨fu - 1, by omega⟩
    obtain ⟨q, g1, g2⟩ := z_wanE hS (j := i) (by omega)
    rw [f_X6_heightOfBoards_L4, f_X10_judge_L37, z_c5, d5, m5, if_neg (nI_ge (by omega) (by omega)), if_neg (nI_ge (by omega) (by omega)), z_ib (by omega) (by omega), if_pos rfl, nI_clamp (by omega), show 25 + 8 + i = 33 + i by omega, g1, g2, Option.bind_some, Option.bind_some, z_ml, nI_1, d6, m2]
    exact ih (i + 1) fu _ (by omega) (by omega)
theorem op_judge : Op_judge Inv := by
  intro n M a hn hI
  have hI' := hI
  obtain ⟨⟨s, u, hS⟩, -⟩ := hI'
  have hS' := hS
  obtain ⟨hW, hM, hz, c1, c2, c3, c4, hT⟩ := hS
  obtain ⟨w1, w2, w3, w4, w5, w6, w7, w8, w9⟩ := hW.1
  obtain ⟨d1, d2, d3, d4, d5, d6, d7⟩ := c1
  have m4 : M 94 4 = nI (s 4) := hM 4 (by omega) (by omega)
  have m5 : M 94 5 = nI (s 5) := hM 5 (by omega) (by omega)
  have m6 : M 94 6 = nI (s 6) := hM 6 (by omega) (by omega)
  have m7 : M 94 7 = nI (s 7) := hM 7 (by omega) (by omega)
  have hfu : 30 < bw_fu := by decide
  have fin : ∀ r, f_X9_judge M a = some r → f_X10_judge M a = some r → ∃ (r : Int32) (M1 M2 : Mem), (f_X9_judge M a = some r ∧ M1 = M) ∧ (f_X10_judge M1 a = some r ∧ M2 = M1) ∧ Inv (n + 1) M2 :=
    fun r h1 h2 => ⟨r, M, M, ⟨h1, rfl⟩, ⟨h2, rfl⟩, z_nochange hI⟩
  rcases z_wi a 0 2 (by omega) (by omega) with o | ⟨o, w, -, hw, rfl⟩
  · rw [← l_0, ← l_2] at o
    have n0 : ¬ a = 0 := by rintro rfl; exact absurd o (by decide)
    have n1 : ¬ a = 1 := by rintro rfl; exact absurd o (by decide)
    have n2 : ¬ a = 2 := by rintro rfl; exact absurd o (by decide)
    refine fin (-1000000001) ?_ ?_
    · unfold f_X9_judge; rw [if_neg n0, if_neg n1, if_neg n2]
    · unfold f_X10_judge; rw [z_in, if_pos o]
  · rcases (by omega : w = 0 ∨ w = 1 ∨ w = 2) with rfl | rfl | rfl
    · obtain ⟨x, e1, e2⟩ := z_jA hS' (s 5) 0 bw_fu (by omega) (by omega)
      refine fin x ?_ ?_
      · unfold f_X9_judge f_X6_firstBoardNotGood; rw [if_pos (by decide), l_0, e1]; rfl
      · unfold f_X10_judge f_X10_firstBad; rw [z_in, if_neg (by decide), if_neg (by decide), if_pos (by decide), l_0, e2]; rfl
    · obtain ⟨x, e1, e2⟩ := z_jC hS' (s 4) 0 bw_fu (by omega) (by omega)
      refine fin x ?_ ?_
      · unfold f_X9_judge f_X6_firstBookAmiss; rw [if_neg (by decide), if_pos (by decide), l_0, e1]; rfl
      · unfold f_X10_judge f_X10_firstLoose; rw [z_in, if_neg (by decide), if_neg (by decide), if_neg (by decide), l_0, e2]; rfl
    · obtain ⟨x, e1, e2⟩ := z_jD hS' (s 5) 0 bw_fu 0 (by omega) (by omega)
      refine fin x ?_ ?_
      · unfold f_X9_judge f_X6_heightOfBoards
        rw [if_neg (by decide), if_neg (by decide), if_pos (by decide)]
        have : f_X6_heightOfBoards_L4 M 25 bw_fu 0 0 = some x := e1
        rw [this]; rfl
      · unfold f_X10_judge
        have : f_X10_judge_L37 M bw_fu 0 0 = some x := e2
        rw [z_in, if_neg (by decide), if_pos (by decide), this]
theorem z_wal {M : Mem} {s : Nat → Nat} {u : Nat → TU} (hS : z_Stk M 25 94 s u) {m h : Nat} (hm : m ≤ 24) (hh : h ≤ 99) : ∀ r i fu g w, i + r = s 4 → r < fu → g ≤ m → w ≤ s 1 → ∃ x, f_X9_wall_L31 M (nI m) (nI h) fu (nI g) (nI w) (nI i) = some x ∧ f_X10_wall_L31 M (nI m) (nI h) fu (nI g) (nI w) (nI i) = some x := by
  obtain ⟨hW, hM, hz, c1, c2, c3, c4, hT⟩ := hS
  obtain ⟨w1, w2, w3, w4, w5, w6, w7, w8, w9⟩ := hW.1
  have m4 : M 94 4 = nI (s 4) := hM 4 (by omega) (by omega)
  have m1 : M 94 (1 : Int32).toNatClampNeg = nI (s 1) := hM 1 (by omega) (by omega)
  have d1 : M 25 0 = nI (s 4) := c1.1
  have d2 : M 25 5 = nI (s 1) := c1.2.1
  intro r
  induction r with
  | zero =>
    intro i fu g w h1 h2 h3 h4
    obtain ⟨fu, rfl⟩ : ∃ f, fu = f + 1 := ⟨fu - 1, by omega⟩
    rw [f_X9_wall_L31, f_X10_wall_L31, z_c4, d1, m4, if_pos (nI_le (by omega) (by omega)), if_pos (nI_le (by omega) (by omega))]
    exact ⟨nI (s 4), rfl, by rw [show i = s 4 by omega]⟩
  | succ r ih =>
    intro i fu g w h1 h2 h3 h4
    obtain ⟨fu, rfl⟩ : ∃ f, fu = f + 1 := ⟨fu - 1, by omega⟩
    have b0 : f_X10_book4 M (nI i) 0 = some (nI (s (14 + 4 * i))) := z_b4 hM (j := i) (w := 0) (by omega) (by omega)
    have b1 : f_X10_book4 M (nI i) 1 = some (nI (s (15 + 4 * i))) := by
      have := z_b4 hM (j := i) (w := 1) (by omega) (by omega)
      rw [show 14 + 4 * i + 1 = 15 + 4 * i by omega] at this
      exact this
    obtain ⟨x1, x2, -, -⟩ := c2 i (by omega)
    rw [show 25 + 1 = 26 from rfl] at x1
    rw [show 25 + 2 = 27 from rfl] at x2
    obtain ⟨y1, y2, y3, y4, -⟩ := hW.2.1 i (by omega)
    generalize s (14 + 4 * i) = H at *
    generalize s (15 + 4 * i) = T at *
    rw [f_X9_wall_L31, f_X10_wall_L31, z_c4, d1, m4, if_neg (nI_ge (by omega) (by omega)), if_neg (nI_ge (by omega) (by omega)), z_ib (by omega) (by omega), if_pos rfl, nI_clamp (by omega), x1, x2, b0, b1, m1, d2, Option.bind_some, Option.bind_some, Option.bind_some, Option.bind_some, Option.bind_some, z_ml, z_ml, nI_1, nI_1]
    by_cases gT : T ≤ w
    · have t1 : nI T ≤ nI w := nI_le gT (by omega)
      simp only [if_pos t1]
      rw [if_neg (nI_nlt (by omega) (by omega))]
      by_cases gH : h < H
      · rw [if_pos (nI_lt gH (by omega)), if_pos (nI_lt gH (by omega))]; exact ⟨_, rfl, rfl⟩
      · rw [if_neg (nI_nlt (by omega) (by omega)), if_neg (nI_nlt (by omega) (by omega)), if_neg (nI_nlt (by omega) (by omega)), pk_sub gT]
        exact ih (i + 1) fu g (w - T) (by omega) (by omega) h3 (by omega)
    · have t1 : ¬ nI T ≤ nI w := nI_ge (by omega) (by omega)
      simp only [if_neg t1]
      by_cases gg : m < g + 1
      · rw [if_pos (nI_lt gg (by omega)), if_neg (show ¬ nI (g + 1) ≤ nI m from nI_ge gg (by omega))]
        refine ⟨_, rfl, ?_⟩
        split
        · rfl
        · split <;> rfl
      · rw [if_neg (nI_nlt (by omega) (by omega)), if_pos (show nI (g + 1) ≤ nI m from nI_le (by omega) (by omega))]
        by_cases gH : h < H
        · rw [if_pos (nI_lt gH (by omega)), if_pos (nI_lt gH (by omega))]; exact ⟨_, rfl, rfl⟩
        · rw [if_neg (nI_nlt (by omega) (by omega)), if_neg (nI_nlt (by omega) (by omega))]
          by_cases gW : T ≤ s 1
          · rw [if_pos (nI_le gW (by omega)), if_neg (nI_nlt (by omega) (by omega)), pk_sub gW]
            exact ih (i + 1) fu (g + 1) (s 1 - T) (by omega) (by omega) (by omega) (by omega)
          · rw [if_neg (nI_ge (by omega) (by omega)), if_pos (nI_lt (by omega) (by omega))]; exact ⟨_, rfl, rfl⟩
theorem op_wall : Op_wall Inv := by
  intro n M a b hn hI
  have hI' := hI
  obtain ⟨⟨s, u, hS⟩, -⟩ := hI'
  have hS' := hS
  obtain ⟨hW, hM, hz, c1, c2, c3, c4, hT⟩ := hS
  obtain ⟨w1, w2, w3, w4, w5, w6, w7, w8, w9⟩ := hW.1
  obtain ⟨d1, d2, d3, d4, d5, d6, d7⟩ := c1
  have m4 : M 94 4 = nI (s 4) := hM 4 (by omega) (by omega)
  have m5 : M 94 5 = nI (s 5) := hM 5 (by omega) (by omega)
  have m6 : M 94 6 = nI (s 6) := hM 6 (by omega) (by omega)
  have m7 : M 94 7 = nI (s 7) := hM 7 (by omega) (by omega)
  have hfu : 30 < bw_fu := by decide
  have fin : ∀ r, f_X9_wall M a b = some r → f_X10_wall M a b = some r → ∃ (r : Int32) (M1 M2 : Mem), (f_X9_wall M a b = some r ∧ M1 = M) ∧ (f_X10_wall M1 a b = some r ∧ M2 = M1) ∧ Inv (n + 1) M2 :=
    fun r h1 h2 => ⟨r, M, M, ⟨h1, rfl⟩, ⟨h2, rfl⟩, z_nochange hI⟩
  rcases z_wi a 0 24 (by omega) (by omega) with o | ⟨o, m, -, hm, rfl⟩
  · rw [← l_0, ← l_24] at o
    exact fin (-1000000001) (by unfold f_X9_wall; rw [if_pos o]) (by unfold f_X10_wall; rw [z_in, if_pos o])
  · rw [← l_0, ← l_24] at o
    rcases z_wi b 1 99 (by omega) (by omega) with p | ⟨p, h, -, hh, rfl⟩
    · rw [← l_1, ← l_99] at p
      exact fin (-1000000001) (by unfold f_X9_wall; rw [o, if_neg (by decide), if_pos p]) (by unfold f_X10_wall; rw [z_in, z_in, o, if_neg (by decide), if_pos p])
    · rw [← l_1, ← l_99] at p
      obtain ⟨x, e1, e2⟩ := z_wal hS' hm hh (s 4) 0 bw_fu 0 0 (by omega) (by omega) (by omega) (by omega)
      refine fin x ?_ ?_
      · unfold f_X9_wall; rw [o, if_neg (by decide), p, if_neg (by decide)]; exact e1
      · unfold f_X10_wall; rw [z_in, z_in, o, if_neg (by decide), p, if_neg (by decide)]; exact e2
/-! texts: which one counts -/
def z_lt (k : Nat) (u : Nat → TU) : Nat → Option Nat
  | 0 => none
  | i + 1 => if (u i).2.1 = k then some i else z_lt k u i
theorem z_lt_lt (k : Nat) (u : Nat → TU) : ∀ c i, z_lt k u c = some i → i < c ∧ (u i).2.1 = k := by
  intro c
  induction c with
  | zero => intro i h; simp [z_lt] at h
  | succ c ih =>
    intro i h
    rw [z_lt] at h
    by_cases g : (u c).2.1 = k
    · rw [if_pos g] at h; injection h with h; subst h; exact ⟨by omega, g⟩
    · rw [if_neg g] at h; have := ih i h; exact ⟨by omega, this.2⟩
/-- what is known of a text's law -/
theorem z_tf {M : Mem} {S R t : Nat} {u : TU} {n : Nat} (h : z_Txt M S R t u) (hL : z_Lws n M) (h32 : z_Lok M (M (S + 7) t)) : M (S + 7) t = nI u.1 ∧ ¬ nI u.1 = 0 ∧ bw_lok M (nI u.1) = true ∧ bw_lc (nI u.1) = z_lcN u.1 ∧ M (z_lcN u.1) 0 = nI u.2.1 ∧ M (z_lcN u.1) 1 = nI (z_ato u.2.2) ∧ u.2.1 ≤ 2 ∧ u.2.2.length ≤ 96 ∧ u.1 ≤ 512 := by
  obtain ⟨g1, ⟨k1, k2, k3, k4, k5⟩, ⟨a1, a2, -⟩, -⟩ := h
  obtain ⟨⟨c, hc, hc2, hc3⟩, -⟩ := hL
  obtain ⟨j, hj, hj2⟩ := h32
  have ne : ¬ nI u.1 = 0 := nI_ne0 (by omega) (by omega)
  have hju : j = u.1 := by
    rw [hc3, nI_clamp (by omega)] at hj
    rw [g1] at hj2
    exact ((nI_eq (by omega) (by omega)).mp hj2).symm
  refine ⟨g1, ne, ?_, z_lc (by omega), a1, a2, k3, k4, k2⟩
  rw [hc3, nI_clamp (by omega)] at hj
  unfold bw_lok
  rw [hc3, nI_clamp (by omega), nI_clamp (by omega)]
  simp [ne, nI_pos' (show u.1 < 2 ^ 31 by omega)]
  omega
theorem z_cLast {M : Mem} {S k : Nat} {u : Nat → TU} {n c : Nat} (hc : c ≤ 14) (hk : k ≤ 2) (hL : z_Lws n M) (hT : ∀ t, t < c → ∃ R, z_Txt M S R t (u t)) (hl : ∀ t, t < c → z_Lok M (M (S + 7) t)) : ∀ i fu, i ≤ c → i < fu → f_X6_lastTextOf_L7 M S (nI k) fu (nI i - 1) = some (match z_lt k u i with | none => -1000000005 | some t => nI t) := by
  intro i
  induction i with
  | zero =>
    intro fu h1 h2
    obtain ⟨fu, rfl⟩ : ∃ f, fu = f + 1 := ⟨fu - 1, by omega⟩
    rw [f_X6_lastTextOf_L7, if_pos (by decide)]; rfl
  | succ i ih =>
    intro fu h1 h2
    obtain ⟨fu, rfl⟩ : ∃ f, fu = f + 1 := ⟨fu - 1, by omega⟩
    obtain ⟨R, hR⟩ := hT i (by omega)
    obtain ⟨q1, q2, q3, q4, q5, q6, q7, q8, q9⟩ := z_tf hR hL (hl i (by omega))
    rw [f_X6_lastTextOf_L7, nI_pred, if_neg (nI_pos (by omega)), z_ib (by omega) (by omega), if_pos rfl, nI_clamp (by omega), q1, if_neg q2, q3, if_pos rfl, q4, q5, ih fu (by omega) (by omega), z_lt]
    by_cases g : (u i).2.1 = k
    · rw [if_pos (congrArg nI g), if_pos g]
    · rw [if_neg (z_neI g (by omega) (by omega)), if_neg g]
theorem z_mLast {M : Mem} {S k : Nat} {u : Nat → TU} {c : Nat} (hc : c ≤ 14) (hk : k ≤ 2) (hT : ∀ t, t < c → z_Txt M S 94 t (u t)) : ∀ i fu, i ≤ c → i < fu → f_X10_counts_L10 M (nI k) fu (nI i - 1) = some (match z_lt k u i with | none => -1 | some t => nI t) := by
  intro i
  induction i with
  | zero =>
    intro fu h1 h2
    obtain ⟨fu, rfl⟩ : ∃ f, fu = f + 1 := ⟨fu - 1, by omega⟩
    rw [f_X10_counts_L10, if_pos (by decide)]; rfl
  | succ i ih =>
    intro fu h1 h2
    obtain ⟨fu, rfl⟩ : ∃ f, fu = f + 1 := ⟨fu - 1, by omega⟩
    obtain ⟨g1, ⟨k1, k2, k3, k4, k5⟩, -, g4, g5, g6⟩ := hT i (by omega)
    rw [f_X10_counts_L10, nI_pred, if_neg (nI_pos (by omega)), l_158, l_2, pk_mul, nI_add, z_ib (by omega) (by omega), if_pos rfl, nI_clamp (by omega), g4, l_1000, pk_div (by omega) (by omega) (by omega), ih fu (by omega) (by omega), z_lt]
    have e : (1000 * (u i).2.1 + (u i).2.2.length) / 1000 = (u i).2.1 := by omega
    rw [e]
    by_cases g : (u i).2.1 = k
    · rw [if_pos (congrArg nI g), if_pos g]
    · rw [if_neg (z_neI g (by omega) (by omega)), if_neg g]
theorem z_32L {n : Nat} {M : Mem} (hI : Inv n M) : z_Lws n M := hI.2.2.2.2.2.2.2.2
theorem op_why : Op_why Inv := by
  intro n M a hn hI
  have hI' := hI
  obtain ⟨⟨s, u, hS⟩, -⟩ := hI'
  have hS' := hS
  obtain ⟨hW, hM, hz, c1, c2, c3, c4, hT⟩ := hS
  obtain ⟨w1, w2, w3, w4, w5, w6, w7, w8, w9⟩ := hW.1
  obtain ⟨d1, d2, d3, d4, d5, d6, d7⟩ := c1
  have m4 : M 94 4 = nI (s 4) := hM 4 (by omega) (by omega)
  have m5 : M 94 5 = nI (s 5) := hM 5 (by omega) (by omega)
  have m6 : M 94 6 = nI (s 6) := hM 6 (by omega) (by omega)
  have m7 : M 94 7 = nI (s 7) := hM 7 (by omega) (by omega)
  have hfu : 30 < bw_fu := by decide
  have hL := z_32L hI
  have fin : ∀ r, f_X9_why M a = some r → f_X10_why M a = some r → ∃ (r : Int32) (M1 M2 : Mem), (f_X9_why M a = some r ∧ M1 = M) ∧ (f_X10_why M1 a = some r ∧ M2 = M1) ∧ Inv (n + 1) M2 :=
    fun r h1 h2 => ⟨r, M, M, ⟨h1, rfl⟩, ⟨h2, rfl⟩, z_nochange hI⟩
  rcases z_wi a 0 2 (by omega) (by omega) with o | ⟨o, k, -, hk, rfl⟩
  · rw [← l_0, ← l_2] at o
    exact fin (-1000000001) (by unfold f_X9_why; rw [if_pos o]) (by unfold f_X10_why; rw [z_in, if_pos o])
  · rw [← l_0, ← l_2] at o
    have x1 := z_cLast (S := 25) (u := u) (k := k) w3 hk hL (fun t ht => ⟨94, hT t ht⟩) (fun t ht => (hL.2.1 t (by omega)).1) (s 6) bw_fu (by omega) (by omega)
    have x2 := z_mLast (S := 25) (u := u) (k := k) w3 hk hT (s 6) bw_fu (by omega) (by omega)
    refine fin (match z_lt k u (s 6) with | none => -1000000005 | some t => nI t) ?_ ?_
    · unfold f_X9_why f_X6_lastTextOf; rw [o, if_neg (by decide), d7, x1]; rfl
    · unfold f_X10_why f_X10_counts; rw [z_in, o, if_neg (by decide), z_ml, z_c6, m6, x2, Option.bind_some]
      cases h : z_lt k u (s 6) with
      | none => rfl
      | some t =>
        have := (z_lt_lt _ _ _ _ h).1
        simp only
        rw [if_pos (nI_pos' (by omega))]
theorem op_textTold : Op_textTold Inv := by
  intro n M a b hn hI
  have hI' := hI
  obtain ⟨⟨s, u, hS⟩, -⟩ := hI'
  have hS' := hS
  obtain ⟨hW, hM, hz, c1, c2, c3, c4, hT⟩ := hS
  obtain ⟨w1, w2, w3, w4, w5, w6, w7, w8, w9⟩ := hW.1
  obtain ⟨d1, d2, d3, d4, d5, d6, d7⟩ := c1
  have m4 : M 94 4 = nI (s 4) := hM 4 (by omega) (by omega)
  have m5 : M 94 5 = nI (s 5) := hM 5 (by omega) (by omega)
  have m6 : M 94 6 = nI (s 6) := hM 6 (by omega) (by omega)
  have m7 : M 94 7 = nI (s 7) := hM 7 (by omega) (by omega)
  have hL := z_32L hI
  have fin : ∀ r, f_X9_textTold M a b = some r → f_X10_textTold M a b = some r → ∃ (r : Int32) (M1 M2 : Mem), (f_X9_textTold M a b = some r ∧ M1 = M) ∧ (f_X10_textTold M1 a b = some r ∧ M2 = M1) ∧ Inv (n + 1) M2 :=
    fun r h1 h2 => ⟨r, M, M, ⟨h1, rfl⟩, ⟨h2, rfl⟩, z_nochange hI⟩
  rcases z_wi1 a (s 6) (by omega) with e | ⟨e, t, ht, rfl⟩
  · refine fin (-1000000001) ?_ ?_
    · unfold f_X9_textTold f_X6_textAt; rw [d7, if_pos e]; rfl
    · unfold f_X10_textTold; rw [z_in, z_c6, m6, if_pos e]
  · obtain ⟨q1, q2, q3, q4, q5, q6, q7, q8, q9⟩ := z_tf (hT t ht) hL (hL.2.1 t (by omega)).1
    obtain ⟨g1, -, -, g4, g5, g6⟩ := hT t ht
    have tA : f_X6_textAt M 25 (nI t) = some (nI (u t).1) := by
      unfold f_X6_textAt; rw [d7, e, if_neg (by decide), z_ib (by omega) (by omega), if_pos rfl, nI_clamp (by omega), q1]
    rcases z_wi b 0 1 (by omega) (by omega) with o | ⟨o, w, -, hw, rfl⟩
    · rw [← l_0, ← l_1] at o
      refine fin (-1000000001) ?_ ?_
      · unfold f_X9_textTold; rw [tA, Option.bind_some, if_neg q2, if_pos o]
      · unfold f_X10_textTold; rw [z_in, z_in, z_c6, m6, e, if_neg (by decide), if_pos o]
    · rw [← l_0, ← l_1] at o
      have C : f_X9_textTold M (nI t) (nI w) = if nI w = 0 then some (nI (u t).2.1) else some (nI (z_ato (u t).2.2)) := by
        unfold f_X9_textTold; rw [tA, Option.bind_some, if_neg q2, o, if_neg (by decide), q3, if_pos rfl, if_pos rfl, q4, q5, q6]
      have D : f_X10_textTold M (nI t) (nI w) = if nI w = 0 then some (nI (u t).2.1) else some (nI (z_ato (u t).2.2)) := by
        unfold f_X10_textTold
        have i1 : bw_ib (158 + 2 * nI t) 1530 = true := by rw [l_158, l_2, pk_mul, nI_add]; exact z_ib (by omega) (by omega)
        have i2 : (158 + 2 * nI t : Int32).toNatClampNeg = 158 + 2 * t := by rw [l_158, l_2, pk_mul, nI_add]; exact nI_clamp (by omega)
        have i3 : bw_ib (158 + 2 * nI t + 1) 1530 = true := by rw [l_158, l_2, pk_mul, nI_add, nI_1]; exact z_ib (by omega) (by omega)
        have i4 : (158 + 2 * nI t + 1 : Int32).toNatClampNeg = 159 + 2 * t := by rw [l_158, l_2, pk_mul, nI_add, nI_1, nI_clamp (by omega)]; omega
        have i5 : nI (1000 * (u t).2.1 + (u t).2.2.length) / 1000 = nI (u t).2.1 := by
          rw [l_1000, pk_div (by omega) (by omega) (by omega)]; congr 1; omega
        rw [z_in, z_in, z_c6, m6, e, if_neg (by decide), o, if_neg (by decide), i1, if_pos rfl, i2, i3, if_pos rfl, i4, g4, g5, i5]
      rcases (by omega : w = 0 ∨ w = 1) with rfl | rfl
      · exact fin _ C D
      · exact fin _ C D
