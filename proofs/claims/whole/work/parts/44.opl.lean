/-! level 2: told, as, judge, wall, why, textTold -/
def z_fo (f : Nat → Nat → Nat) : Nat → Nat → Nat → Nat
  | 0, _, a => a
  | r + 1, i, a => z_fo f r (i + 1) (f a i)
def z_fmax (s : Nat → Nat) : Nat → Nat → Nat := fun a i => if a < s (14 + 4 * i) then s (14 + 4 * i) else a
def z_fsum (s : Nat → Nat) : Nat → Nat → Nat := fun a i => a + s (15 + 4 * i)
theorem z_maxN {a b : Nat} (ha : a < 2 ^ 31) (hb : b < 2 ^ 31) : bw_max (nI a) (nI b) = nI (if a < b then b else a) := by
  unfold bw_max
  by_cases g : a < b
  · rw [if_pos (nI_lt g hb), if_pos g]
  · rw [if_neg (nI_nlt (by omega) ha), if_neg g]
theorem z_cTal {M : Mem} {S c l : Nat} {s : Nat → Nat} (h0 : M S 0 = nI c) (hc : c ≤ 24) (hl : l < c) (hB : ∀ i, i < c → M (S + 1) i = nI (s (14 + 4 * i)) ∧ s (14 + 4 * i) ≤ 99) : ∀ r i fu a, i + r = l + 1 → r < fu → a ≤ 99 → f_X6_tallest_L9 M S (nI l) fu (nI a) (nI i) = some (nI (z_fo (z_fmax s) r i a)) := by
  intro r
  induction r with
  | zero =>
    intro i fu a h1 h2 h3
    obtain ⟨fu, rfl⟩ : ∃ f, fu = f + 1 := ⟨fu - 1, by omega⟩
    rw [f_X6_tallest_L9, if_pos (nI_lt (by omega) (by omega))]; rfl
  | succ r ih =>
    intro i fu a h1 h2 h3
    obtain ⟨fu, rfl⟩ : ∃ f, fu = f + 1 := ⟨fu - 1, by omega⟩
    obtain ⟨b1, b2⟩ := hB i (by omega)
    rw [f_X6_tallest_L9, if_neg (nI_nlt (by omega) (by omega)), h0, if_neg (nI_ge (by omega) (by omega)), z_ib (by omega) (by omega), if_pos rfl, nI_clamp (by omega), b1, z_maxN (by omega) (by omega), z_ml, nI_1, ih (i + 1) fu _ (by omega) (by omega) (by split <;> omega)]
    rfl
theorem z_cThi {M : Mem} {S c l : Nat} {s : Nat → Nat} (h0 : M S 0 = nI c) (hc : c ≤ 24) (hl : l < c) (hB : ∀ i, i < c → M (S + 2) i = nI (s (15 + 4 * i))) : ∀ r i fu a, i + r = l + 1 → r < fu → f_X6_thickness_L9 M S (nI l) fu (nI a) (nI i) = some (nI (z_fo (z_fsum s) r i a)) := by
  intro r
  induction r with
  | zero =>
    intro i fu a h1 h2
    obtain ⟨fu, rfl⟩ : ∃ f, fu = f + 1 := ⟨fu - 1, by omega⟩
    rw [f_X6_thickness_L9, if_pos (nI_lt (by omega) (by omega))]; rfl
  | succ r ih =>
    intro i fu a h1 h2
    obtain ⟨fu, rfl⟩ : ∃ f, fu = f + 1 := ⟨fu - 1, by omega⟩
    rw [f_X6_thickness_L9, if_neg (nI_nlt (by omega) (by omega)), h0, if_neg (nI_ge (by omega) (by omega)), z_ib (by omega) (by omega), if_pos rfl, nI_clamp (by omega), hB i (by omega), nI_add, z_ml, nI_1, ih (i + 1) fu _ (by omega) (by omega)]
    rfl
theorem z_mOf0 {M : Mem} {b l : Nat} {s : Nat → Nat} (hM : z_MR M 94 s) (hb : b < 12) (hl : s (112 + 4 * b) = l) (hl2 : l < 24) (hB : ∀ i, i ≤ l → s (14 + 4 * i) ≤ 99) : ∀ r i fu a, i + r = l + 1 → r < fu → a ≤ 99 → f_X10_ofBooks_L10 M (nI b) 0 fu (nI a) (nI i) = some (nI (z_fo (z_fmax s) r i a)) := by
  intro r
  induction r with
  | zero =>
    intro i fu a h1 h2 h3
    obtain ⟨fu, rfl⟩ : ∃ f, fu = f + 1 := ⟨fu - 1, by omega⟩
    rw [f_X10_ofBooks_L10, l_2, z_d4 hM hb (by omega), Option.bind_some, show 110 + 4 * b + 2 = 112 + 4 * b by omega, hl, if_pos (nI_lt (by omega) (by omega))]; rfl
  | succ r ih =>
    intro i fu a h1 h2 h3
    obtain ⟨fu, rfl⟩ : ∃ f, fu = f + 1 := ⟨fu - 1, by omega⟩
    have b2 := hB i (by omega)
    have q : f_X10_book4 M (nI i) 0 = some (nI (s (14 + 4 * i))) := z_b4 hM (j := i) (w := 0) (by omega) (by omega)
    rw [f_X10_ofBooks_L10, l_2, z_d4 hM hb (by omega), Option.bind_some, show 110 + 4 * b + 2 = 112 + 4 * b by omega, hl, if_neg (nI_nlt (by omega) (by omega)), q, Option.bind_some, if_neg (show ¬ (0 : Int32) = 1 by decide), nI_1]
    have e : (if nI (s (14 + 4 * i)) ≤ nI a then nI a else nI (s (14 + 4 * i))) = nI (z_fmax s a i) := by
      unfold z_fmax
      by_cases g : a < s (14 + 4 * i)
      · rw [if_pos g, if_neg (nI_ge g (by omega))]
      · rw [if_neg g, if_pos (nI_le (by omega) (by omega))]
    rw [e, ih (i + 1) fu _ (by omega) (by omega) (by unfold z_fmax; split <;> omega)]
    rfl
theorem z_mOf1 {M : Mem} {b l : Nat} {s : Nat → Nat} (hM : z_MR M 94 s) (hb : b < 12) (hl : s (112 + 4 * b) = l) (hl2 : l < 24) : ∀ r i fu a, i + r = l + 1 → r < fu → f_X10_ofBooks_L10 M (nI b) 1 fu (nI a) (nI i) = some (nI (z_fo (z_fsum s) r i a)) := by
  intro r
  induction r with
  | zero =>
    intro i fu a h1 h2
    obtain ⟨fu, rfl⟩ : ∃ f, fu = f + 1 := ⟨fu - 1, by omega⟩
    rw [f_X10_ofBooks_L10, l_2, z_d4 hM hb (by omega), Option.bind_some, show 110 + 4 * b + 2 = 112 + 4 * b by omega, hl, if_pos (nI_lt (by omega) (by omega))]; rfl
  | succ r ih =>
    intro i fu a h1 h2
    obtain ⟨fu, rfl⟩ : ∃ f, fu = f + 1 := ⟨fu - 1, by omega⟩
    have q : f_X10_book4 M (nI i) 0 = some (nI (s (14 + 4 * i))) := z_b4 hM (j := i) (w := 0) (by omega) (by omega)
    have q1 : f_X10_book4 M (nI i) 1 = some (nI (s (15 + 4 * i))) := by
      have := z_b4 hM (j := i) (w := 1) (by omega) (by omega)
      rw [show 14 + 4 * i + 1 = 15 + 4 * i by omega] at this
      exact this
    rw [f_X10_ofBooks_L10, l_2, z_d4 hM hb (by omega), Option.bind_some, show 110 + 4 * b + 2 = 112 + 4 * b by omega, hl, if_neg (nI_nlt (by omega) (by omega)), q, Option.bind_some, if_pos rfl, q1, Option.bind_some, nI_add, nI_1, ih (i + 1) fu _ (by omega) (by omega)]
    rfl
/-- the greatest height, the thickness of a board's books: both sides -/
theorem z_talE {M : Mem} {s : Nat → Nat} {u : Nat → TU} (hS : z_Stk M 25 94 s u) {j : Nat} (hj : j < s 5) : ∃ t h : Nat, f_X6_tallest M 25 (M (33 + j) 1) (M (33 + j) 2) = some (nI t) ∧ f_X10_ofBooks M (nI j) 0 = some (nI t) ∧ f_X6_thickness M 25 (M (33 + j) 1) (M (33 + j) 2) = some (nI h) ∧ f_X10_ofBooks M (nI j) 1 = some (nI h) := by
  obtain ⟨hW, hM, hz, c1, c2, c3, c4, hT⟩ := hS
  obtain ⟨w1, w2, w3, w4, w5, w6, w7, w8, w9⟩ := hW.1
  have hfu : 30 < bw_fu := by decide
  obtain ⟨x0, x1, x2, x3⟩ := c3 j hj
  rw [show 25 + 8 + j = 33 + j by omega] at x0 x1 x2 x3
  obtain ⟨y0, y1, y2, y3⟩ := hW.2.2.1 j hj
  have hd : f_X10_board4 M (nI j) 1 = some (nI (s (111 + 4 * j))) := by
    have := z_d4 hM (j := j) (w := 1) (by omega) (by omega)
    rw [show 110 + 4 * j + 1 = 111 + 4 * j by omega] at this
    exact this
  have hm : bw_max (nI (s (111 + 4 * j))) 0 = nI (s (111 + 4 * j)) := by
    rw [l_0, z_maxN (by omega) (by omega), if_neg (by omega)]
  refine ⟨z_fo (z_fmax s) (s (112 + 4 * j) + 1 - s (111 + 4 * j)) (s (111 + 4 * j)) 0, z_fo (z_fsum s) (s (112 + 4 * j) + 1 - s (111 + 4 * j)) (s (111 + 4 * j)) 0, ?_, ?_, ?_, ?_⟩
  · unfold f_X6_tallest
    rw [x1, x2, hm, l_0]
    exact z_cTal c1.1 w1 y2 (fun i hi => ⟨(c2 i hi).1, (hW.2.1 i hi).2.1⟩) _ _ _ _ (by omega) (by omega) (by omega)
  · unfold f_X10_ofBooks
    rw [hd, Option.bind_some]
    exact z_mOf0 hM (by omega) rfl (by omega) (fun i hi => (hW.2.1 i (by omega)).2.1) _ _ _ 0 (by omega) (by omega) (by omega)
  · unfold f_X6_thickness
    rw [x1, x2, hm, l_0]
    exact z_cThi c1.1 w1 y2 (fun i hi => (c2 i hi).2.1) _ _ _ _ (by omega) (by omega)
  · unfold f_X10_ofBooks
    rw [hd, Option.bind_some]
    exact z_mOf1 hM (by omega) rfl (by omega) _ _ _ 0 (by omega) (by omega)
theorem z_bf {M : Mem} {s : Nat → Nat} {u : Nat → TU} (hS : z_Stk M 25 94 s u) {j : Nat} (hj : j < s 5) : ∃ k f l h, k ≤ 5 ∧ f ≤ l ∧ l < s 4 ∧ M (33 + j) 0 = nI k ∧ M (33 + j) 1 = nI f ∧ M (33 + j) 2 = nI l ∧ M (33 + j) 3 = nI h ∧ f_X10_board4 M (nI j) 0 = some (nI k) ∧ f_X10_board4 M (nI j) 1 = some (nI f) ∧ f_X10_board4 M (nI j) 2 = some (nI l) ∧ f_X10_board4 M (nI j) 3 = some (nI h) := by
  obtain ⟨hW, hM, hz, c1, c2, c3, c4, hT⟩ := hS
  obtain ⟨w1, w2, w3, w4, w5, w6, w7, w8, w9⟩ := hW.1
  obtain ⟨x0, x1, x2, x3⟩ := c3 j hj
  rw [show 25 + 8 + j = 33 + j by omega] at x0 x1 x2 x3
  obtain ⟨y0, y1, y2, y3⟩ := hW.2.2.1 j hj
  have b0 := z_d4 hM (j := j) (w := 0) (by omega) (by omega)
  have b1 := z_d4 hM (j := j) (w := 1) (by omega) (by omega)
  have b2 := z_d4 hM (j := j) (w := 2) (by omega) (by omega)
  have b3 := z_d4 hM (j := j) (w := 3) (by omega) (by omega)
  rw [show 110 + 4 * j + 1 = 111 + 4 * j by omega] at b1
  rw [show 110 + 4 * j + 2 = 112 + 4 * j by omega] at b2
  rw [show 110 + 4 * j + 3 = 113 + 4 * j by omega] at b3
  exact ⟨_, _, _, _, y0, y1, y2, x0, x1, x2, x3, b0, b1, b2, b3⟩
theorem z_wanE {M : Mem} {s : Nat → Nat} {u : Nat → TU} (hS : z_Stk M 25 94 s u) {j : Nat} (hj : j < s 5) : ∃ r, f_X0_wants M (33 + j) 25 = some r ∧ f_X10_wants M (nI j) = some r := by
  obtain ⟨t, h, a1, a2, a3, a4⟩ := z_talE hS hj
  obtain ⟨k, f, l, hh, hk, -, -, b0, b1, b2, b3, m0, m1, m2, m3⟩ := z_bf hS hj
  unfold f_X0_wants f_X10_wants
  rw [a1, a3, m0, Option.bind_some, a2, a4, m3, b0, b3]
  simp only [Option.bind_some]
  rcases (by omega : k = 0 ∨ k = 1 ∨ k = 2 ∨ k = 3 ∨ k = 4 ∨ k = 5) with rfl | rfl | rfl | rfl | rfl | rfl
  · exact ⟨_, rfl, rfl⟩
  · exact ⟨_, rfl, rfl⟩
  · exact ⟨_, rfl, rfl⟩
  · exact ⟨_, rfl, rfl⟩
  · exact ⟨_, rfl, rfl⟩
  · exact ⟨_, rfl, rfl⟩
theorem z_takE {M : Mem} {s : Nat → Nat} {u : Nat → TU} (hS : z_Stk M 25 94 s u) {j : Nat} (hj : j < s 5) : ∃ r, f_X0_takes M (33 + j) 25 = some r ∧ f_X10_takes M (nI j) = some r := by
  obtain ⟨t, h, a1, a2, a3, a4⟩ := z_talE hS hj
  obtain ⟨k, f, l, hh, hk, -, -, b0, b1, b2, b3, m0, m1, m2, m3⟩ := z_bf hS hj
  unfold f_X0_takes f_X10_takes
  rw [a1, a3, m0, Option.bind_some, a2, a4, b0]
  rcases (by omega : k = 0 ∨ k = 1 ∨ k = 2 ∨ k = 3 ∨ k = 4 ∨ k = 5) with rfl | rfl | rfl | rfl | rfl | rfl
  · exact ⟨_, rfl, rfl⟩
  · exact ⟨_, rfl, rfl⟩
  · exact ⟨_, rfl, rfl⟩
  · exact ⟨_, rfl, rfl⟩
  · exact ⟨_, rfl, rfl⟩
  · exact ⟨_, rfl, rfl⟩
theorem z_gooE {M : Mem} {s : Nat → Nat} {u : Nat → TU} (hS : z_Stk M 25 94 s u) {j : Nat} (hj : j < s 5) : ∃ r, f_X0_isGood M (33 + j) 25 = some r ∧ f_X10_isGood M (nI j) = some r := by
  obtain ⟨r, a1, a2⟩ := z_takE hS hj
  obtain ⟨k, f, l, hh, hk, hf, hl, b0, b1, b2, b3, m0, m1, m2, m3⟩ := z_bf hS hj
  obtain ⟨hW, hM, hz, c1, c2, c3, c4, hT⟩ := hS
  obtain ⟨w1, w2, w3, w4, w5, w6, w7, w8, w9⟩ := hW.1
  have tl : ∀ i, i < s 4 → ∃ b, b ≤ 1 ∧ M 29 i = nI b ∧ f_X10_book4 M (nI i) 3 = some (nI b) := by
    intro i hi
    refine ⟨s (17 + 4 * i), (hW.2.1 i hi).2.2.2.2.2, (c2 i hi).2.2.2, ?_⟩
    have := z_b4 hM (j := i) (w := 3) (by omega) (by omega)
    rw [show 14 + 4 * i + 3 = 17 + 4 * i by omega] at this
    exact this
  have hb : ∀ i, i < 2 ^ 31 → f_X6_hasBook M 25 (nI i) = if i < s 4 then 1 else 0 := by
    intro i hi; unfold f_X6_hasBook; rw [c1.1, z_wiM hi (by omega)]
  have m94 : M 94 (1 : Int32).toNatClampNeg = M 25 5 := by
    rw [show ((1 : Int32).toNatClampNeg) = 1 from rfl, hM 1 (by omega) (by omega), c1.2.1]
  -- what is tied on, what is tied ahead
  have A : ∃ x, (x = 0 ∨ x = 1) ∧ f_X0_isGood M (33 + j) 25 = f_X0_isGood_J30 M (33 + j) 25 x ∧ f_X10_isGood_J30 M (nI j) (nI l) = f_X10_isGood_J57 M (nI j) x := by
    unfold f_X0_isGood f_X10_isGood_J30
    rw [b2, l_1, nI_add, hb (l + 1) (by omega), z_c4, hM 4 (by omega) (by omega), pk_sub (by omega)]
    by_cases g : l + 1 < s 4
    · obtain ⟨b, hb1, hb2, hb3⟩ := tl l hl
      rw [if_pos g, if_neg (show ¬ (1 : Int32) = 0 by decide), z_ib (by omega) (by omega), if_pos rfl, nI_clamp (by omega), hb2, if_neg (nI_ge (by omega) (by omega)), hb3, Option.bind_some]
      rcases (by omega : b = 0 ∨ b = 1) with rfl | rfl
      · exact ⟨0, Or.inl rfl, rfl, rfl⟩
      · exact ⟨1, Or.inr rfl, rfl, rfl⟩
    · rw [if_neg g, if_pos rfl, if_pos (nI_le (by omega) (by omega))]
      exact ⟨0, Or.inl rfl, rfl, rfl⟩
  obtain ⟨x, hx, A1, A2⟩ := A
  have B : ∃ y, (y = 0 ∨ y = 1) ∧ f_X0_isGood_J30 M (33 + j) 25 x = f_X0_isGood_J63 M (33 + j) 25 x y ∧ f_X10_isGood M (nI j) = if y = 1 then f_X10_isGood_J57 M (nI j) 1 else f_X10_isGood_J30 M (nI j) (nI l) := by
    unfold f_X0_isGood_J30 f_X10_isGood
    rw [b1, m1, Option.bind_some, m2, Option.bind_some]
    by_cases g : f = 0
    · subst g
      have : f_X6_hasBook M 25 (nI 0 - 1) = 0 := by
        unfold f_X6_hasBook f_X9_isWithin; rw [if_pos (by decide)]
      rw [this, if_pos rfl, if_pos (by decide)]
      exact ⟨0, Or.inl rfl, rfl, by rw [if_neg (by decide)]⟩
    · obtain ⟨b, hb1, hb2, hb3⟩ := tl (f - 1) (by omega)
      rw [l_1, pk_sub (by omega), hb (f - 1) (by omega), if_pos (show f - 1 < s 4 by omega), if_neg (show ¬ (1 : Int32) = 0 by decide), z_ib (by omega) (by omega), if_pos rfl, nI_clamp (by omega), hb2, if_neg (nI_nle (by omega) (by omega)), hb3, Option.bind_some]
      rcases (by omega : b = 0 ∨ b = 1) with rfl | rfl
      · exact ⟨0, Or.inl rfl, rfl, rfl⟩
      · exact ⟨1, Or.inr rfl, rfl, rfl⟩
  obtain ⟨y, hy, B1, B2⟩ := B
  rw [A1, B1, B2, A2]
  unfold f_X0_isGood_J63 f_X10_isGood_J57
  rw [a1, a2, Option.bind_some, Option.bind_some, m94]
  rcases hx with rfl | rfl <;> rcases hy with rfl | rfl
  · refine ⟨_, rfl, ?_⟩
    rw [if_neg (by decide), if_pos rfl]
    split <;> rfl
  · refine ⟨_, rfl, ?_⟩
    rw [if_pos rfl, if_neg (by decide)]
    split <;> rfl
  · refine ⟨_, rfl, ?_⟩
    rw [if_neg (by decide), if_neg (by decide)]
    split <;> rfl
  · refine ⟨_, rfl, ?_⟩
    rw [if_pos rfl, if_neg (by decide)]
    split <;> rfl
theorem op_told : Op_told Inv := by
  intro n M a b hn hI
  have hI' := hI
  obtain ⟨⟨s, u, hS⟩, -⟩ := hI'
  have hS' := hS
  obtain ⟨hW, hM, hz, c1, c2, c3, c4, hT⟩ := hS
  obtain ⟨w1, w2, w3, w4, w5, w6, w7, w8, w9⟩ := hW.1
  obtain ⟨d1, d2, d3, d4, d5, d6, d7⟩ := c1
  have m4 : M 94 4 = nI (s 4) := hM 4 (by omega) (by omega)
  have m5 : M 94 5 = nI (s 5) := hM 5 (by omega) (by omega)
  have m6 : M 94 6 = nI (s 6) := hM 6 (by omega) (by omega)
  have m7 : M 94 7 = nI (s 7) := hM 7 (by omega) (by omega)
  have fin : ∀ r, f_X9_told M a b = some r → f_X10_told M a b = some r → ∃ (r : Int32) (M1 M2 : Mem), (f_X9_told M a b = some r ∧ M1 = M) ∧ (f_X10_told M1 a b = some r ∧ M2 = M1) ∧ Inv (n + 1) M2 :=
    fun r h1 h2 => ⟨r, M, M, ⟨h1, rfl⟩, ⟨h2, rfl⟩, z_nochange hI⟩
  rcases z_wi1 a (s 5) (by omega) with e | ⟨e, j, hj, rfl⟩
  · refine fin (-1000000001) ?_ ?_
    · unfold f_X9_told f_X6_hasBoard; rw [d5, if_pos e]
    · unfold f_X10_told f_X10_isBoard; rw [z_in, z_c5, m5, if_pos e]
  · obtain ⟨k, f, l, hh, hk, hf, hl, b0, b1, b2, b3, m0, m1, m2, m3⟩ := z_bf hS' hj
    obtain ⟨r4, x4, y4⟩ := z_wanE hS' hj
    obtain ⟨r5, x5, y5⟩ := z_takE hS' hj
    obtain ⟨r7, x7, y7⟩ := z_gooE hS' hj
    have C : f_X9_told M (nI j) b = (if b = (0 : Int32) then some (nI k) else (if b = (1 : Int32) then some (nI f) else (if b = (2 : Int32) then some (nI l) else (if b = (3 : Int32) then some (nI hh) else (if b = (4 : Int32) then some r4 else (if b = (5 : Int32) then some r5 else (if b = (6 : Int32) then some (f_X0_worth M (33 + j)) else (if b = (7 : Int32) then some (if r7 = 0 then (0 : Int32) else (1 : Int32)) else some (-1000000001 : Int32))))))))) := by
      unfold f_X9_told f_X6_hasBoard
      rw [d5, e, if_neg (by decide), z_ib (by omega) (by omega), if_pos rfl, nI_clamp (by omega), b0, b1, b2, b3, x4, x5, x7, Option.bind_some, Option.bind_some, Option.bind_some]
    have W : f_X10_worthBy (nI k) (nI l - nI f + 1) (nI hh) = f_X0_worth M (33 + j) := by
      rw [← z_worthE, b0, b1, b2, b3]
    have bO : f_X10_booksOn M (nI j) = some (nI l - nI f + 1) := by
      unfold f_X10_booksOn; rw [m2, m1, Option.bind_some, Option.bind_some]
    have D : f_X10_told M (nI j) b = (if (f_X9_isWithin b (0 : Int32) (7 : Int32)) = 0 then some (-1000000001 : Int32) else (if b = (4 : Int32) then some r4 else (if b = (5 : Int32) then some r5 else (if b = (6 : Int32) then some (f_X0_worth M (33 + j)) else (if b = (7 : Int32) then some (if r7 = 0 then (0 : Int32) else (1 : Int32)) else (f_X10_board4 M (nI j) b).bind fun q17 => some q17))))) := by
      unfold f_X10_told f_X10_isBoard
      rw [z_in, z_in, z_c5, m5, e, if_neg (by decide), y4, y5, y7, m0, m3, bO, Option.bind_some, Option.bind_some, Option.bind_some, Option.bind_some, Option.bind_some, Option.bind_some, W]
    rcases z_wi b 0 7 (by omega) (by omega) with o | ⟨o, w, -, hw, rfl⟩
    · rw [← l_0, ← l_7] at o
      rw [if_pos o] at D
      have nn : ∀ i, i ≤ 7 → ¬ b = nI i := by
        intro i hi h
        rw [h, l_0, l_7, z_wiN (by omega) (by omega) (by omega), if_pos (by omega)] at o
        exact absurd o (by decide)
      rw [if_neg (show ¬ b = 0 from nn 0 (by omega)), if_neg (show ¬ b = 1 from nn 1 (by omega)), if_neg (show ¬ b = 2 from nn 2 (by omega)), if_neg (show ¬ b = 3 from nn 3 (by omega)), if_neg (show ¬ b = 4 from nn 4 (by omega)), if_neg (show ¬ b = 5 from nn 5 (by omega)), if_neg (show ¬ b = 6 from nn 6 (by omega)), if_neg (show ¬ b = 7 from nn 7 (by omega))] at C
      exact fin _ C D
    · rw [← l_0, ← l_7] at o
      rw [o, if_neg (by decide)] at D
      rcases (by omega : w = 0 ∨ w = 1 ∨ w = 2 ∨ w = 3 ∨ w = 4 ∨ w = 5 ∨ w = 6 ∨ w = 7) with rfl | rfl | rfl | rfl | rfl | rfl | rfl | rfl
      · exact fin _ C (D.trans (by rw [show f_X10_board4 M (nI j) (nI 0) = some (nI k) from m0]; rfl))
      · exact fin _ C (D.trans (by rw [show f_X10_board4 M (nI j) (nI 1) = some (nI f) from m1]; rfl))
      · exact fin _ C (D.trans (by rw [show f_X10_board4 M (nI j) (nI 2) = some (nI l) from m2]; rfl))
      · exact fin _ C (D.trans (by rw [show f_X10_board4 M (nI j) (nI 3) = some (nI hh) from m3]; rfl))
      · exact fin _ C D
      · exact fin _ C D
      · exact fin _ C D
      · exact fin _ C D
theorem op_as : Op_as Inv := by
  intro n M a b hn hI
  have hI' := hI
  obtain ⟨⟨s, u, hS⟩, -⟩ := hI'
  have hS' := hS
  obtain ⟨hW, hM, hz, c1, c2, c3, c4, hT⟩ := hS
  obtain ⟨w1, w2, w3, w4, w5, w6, w7, w8, w9⟩ := hW.1
  obtain ⟨d1, d2, d3, d4, d5, d6, d7⟩ := c1
  have m4 : M 94 4 = nI (s 4) := hM 4 (by omega) (by omega)
  have m5 : M 94 5 = nI (s 5) := hM 5 (by omega) (by omega)
  have m6 : M 94 6 = nI (s 6) := hM 6 (by omega) (by omega)
  have m7 : M 94 7 = nI (s 7) := hM 7 (by omega) (by omega)
  have fin : ∀ r, f_X9_as M a b = some r → f_X10_as M a b = some r → ∃ (r : Int32) (M1 M2 : Mem), (f_X9_as M a b = some r ∧ M1 = M) ∧ (f_X10_as M1 a b = some r ∧ M2 = M1) ∧ Inv (n + 1) M2 :=
    fun r h1 h2 => ⟨r, M, M, ⟨h1, rfl⟩, ⟨h2, rfl⟩, z_nochange hI⟩
  rcases z_wi1 a (s 5) (by omega) with e | ⟨e, j, hj, rfl⟩
  · refine fin (-1000000001) ?_ ?_
    · unfold f_X9_as f_X6_hasBoard; rw [d5, if_pos e]
    · unfold f_X10_as f_X10_isBoard; rw [z_in, z_c5, m5, if_pos e]
  · rcases z_wi b 0 5 (by omega) (by omega) with g | ⟨g, v, -, hv, rfl⟩
    · rw [← l_0, ← l_5] at g
      refine fin (-1000000001) ?_ ?_
      · unfold f_X9_as f_X6_hasBoard f_X9_isKind; rw [d5, e, if_neg (by decide), if_pos g]
      · unfold f_X10_as f_X10_isBoard; rw [z_in, z_in, z_c5, m5, e, if_neg (by decide), if_pos g]
    · rw [← l_0, ← l_5] at g
      obtain ⟨k, f, l, hh, hk, hf, hl, b0, b1, b2, b3, m0, m1, m2, m3⟩ := z_bf hS' hj
      have C : f_X9_as M (nI j) (nI v) = some (if f_X10_isUnder (nI k) (nI v) = 0 then -1000000012 else nI hh) := by
        unfold f_X9_as f_X6_hasBoard f_X9_isKind
        rw [d5, e, if_neg (by decide), g, if_neg (by decide), z_ib (by omega) (by omega), if_pos rfl, nI_clamp (by omega), b0, b3, z_under M hk hv, Option.bind_some]
      refine fin _ C ?_
      unfold f_X10_as f_X10_isBoard
      rw [z_in, z_in, z_c5, m5, e, if_neg (by decide), g, if_neg (by decide), m0, Option.bind_some, m3, Option.bind_some]
      split <;> rfl
