/-! level 2: what a question begins with -/
def z_sH (s : Nat → Nat) (j : Nat) : Nat := s (14 + 4 * j)
def z_sT (s : Nat → Nat) (j : Nat) : Nat := s (15 + 4 * j)
def z_sD (s : Nat → Nat) (j : Nat) : Nat := s (17 + 4 * j)
def z_sA (s : Nat → Nat) (k : Nat) : Nat := s (8 + k)
theorem z_BdS {s : Nat → Nat} (hW : z_W s) : z_Bd (s 4) (s 1) (s 2) (s 7) (z_sH s) (z_sT s) (z_sD s) (z_sA s) := by
  obtain ⟨⟨w1, w2, w3, w4, w5, w6, w7, w8, w9⟩, hB, hD, hA⟩ := hW
  refine ⟨w1, w6, w7, w4, ?_, hA⟩
  intro j hj
  obtain ⟨a, b, c, d, e, f⟩ := hB j hj
  exact ⟨a, b, d, f⟩
def z_lw (k : Nat) (u : Nat → TU) (n : Nat) : Option TU := match z_lt k u n with
  | none => none
  | some t => some (u t)
def z_lwI (lw : Option TU) : Int32 := match lw with
  | none => 0
  | some u => nI u.1
theorem z_lawOf {M : Mem} {S R k n : Nat} {s : Nat → Nat} {u : Nat → TU} (hS : z_Stk M S R s u) (hk : k ≤ 2) (hL : z_Lws n M) (hl : ∀ t, t < 14 → z_Lok M (M (S + 7) t)) : f_X6_lawOf M S (nI k) = some (z_lwI (z_lw k u (s 6))) ∧ z_Lok M (z_lwI (z_lw k u (s 6))) ∧ ∀ v, z_lw k u (s 6) = some v → z_LOK M v ∧ v.2.1 = k := by
  have hfu : 100 < bw_fu := by decide
  obtain ⟨hW, hM, hz, c1, c2, c3, c4, hT⟩ := hS
  have w3 : s 6 ≤ 14 := hW.1.2.2.1
  have x1 := z_cLast (S := S) (u := u) (k := k) w3 hk hL (fun t ht => ⟨R, hT t ht⟩) (fun t ht => hl t (by omega)) (s 6) bw_fu (by omega) (by omega)
  have d7 : M S 13 = nI (s 6) := c1.2.2.2.2.2.2
  unfold f_X6_lawOf f_X6_lastTextOf z_lw
  rw [d7, x1, Option.bind_some]
  cases h : z_lt k u (s 6) with
  | none =>
    dsimp only
    refine ⟨?_, ⟨0, by omega, rfl⟩, fun v hv => by simp at hv⟩
    unfold f_X6_textAt f_X9_isWithin
    rw [if_pos (show (-1000000005 : Int32) < 0 by decide), if_pos rfl]; rfl
  | some t =>
    dsimp only
    obtain ⟨t1, t2⟩ := z_lt_lt _ _ _ _ h
    obtain ⟨q1, q2, q3, q4, q5, q6, q7, q8, q9⟩ := z_tf (hT t t1) hL (hl t (by omega))
    refine ⟨?_, ?_, ?_⟩
    · unfold f_X6_textAt
      rw [d7, z_wiM (by omega) (by omega), if_pos t1, if_neg (by decide), z_ib (by omega) (by omega), if_pos rfl, nI_clamp (by omega), q1]; rfl
    · show z_Lok M (nI (u t).1)
      rw [← q1]; exact hl t (by omega)
    · intro v hv
      injection hv with hv
      subst hv
      exact ⟨⟨(hT t t1).2.2.1, (hT t t1).2.1, q3⟩, t2⟩
theorem z_ldL {M0 : Mem} {S m : Nat} {s : Nat → Nat} (hS : 25 ≤ S) (hm : m ≤ 24) (hB : ∀ i, i < m → M0 (S + 1) i = nI (z_sH s i) ∧ M0 (S + 2) i = nI (z_sT s i) ∧ M0 (S + 4) i = nI (z_sD s i) ∧ z_sD s i ≤ 1) : ∀ r i fu (M : Mem), i + r = m → r < fu → M 1 0 = nI m → (∀ b, 25 ≤ b → M b = M0 b) → (∀ j, j < i → M 2 j = nI (z_sH s j) ∧ M 3 j = nI (z_sT s j) ∧ M 4 j = nI (z_sD s j)) → ∃ M', f_X2_load_L10 S fu (nI i) M = f_X2_load_L10 S 1 (nI m) M' ∧ (∀ j, j < m → M' 2 j = nI (z_sH s j) ∧ M' 3 j = nI (z_sT s j) ∧ M' 4 j = nI (z_sD s j)) ∧ ∀ b, b < 2 ∨ 4 < b → M' b = M b := by
  intro r
  induction r with
  | zero =>
    intro i fu M h1 h2 h3 h4 h5
    obtain ⟨fu, rfl⟩ : ∃ f, fu = f + 1 := ⟨fu - 1, by omega⟩
    have : i = m := by omega
    subst this
    refine ⟨M, ?_, h5, fun _ _ => rfl⟩
    rw [f_X2_load_L10, f_X2_load_L10, h3, if_pos (nI_le (by omega) (by omega)), if_pos (nI_le (by omega) (by omega))]
  | succ r ih =>
    intro i fu M h1 h2 h3 h4 h5
    obtain ⟨fu, rfl⟩ : ∃ f, fu = f + 1 := ⟨fu - 1, by omega⟩
    obtain ⟨a1, a2, a3, a4⟩ := hB i (by omega)
    obtain ⟨M1, hM1⟩ : ∃ M1, M1 = bw_up (bw_up (bw_up M 2 i (nI (z_sH s i))) 3 i (nI (z_sT s i))) 4 i (nI (z_sD s i)) := ⟨_, rfl⟩
    have o : ∀ b, b < 2 ∨ 4 < b → M1 b = M b := by intro b hb; rw [hM1]; simp (disch := omega) only [z_up_k]
    obtain ⟨M', e1, e2, e3⟩ := ih (i + 1) fu M1 (by omega) (by omega) (by rw [o 1 (by omega)]; exact h3) (by intro b hb; rw [o b (by omega)]; exact h4 b hb) (by
      intro j hj
      rw [hM1]
      by_cases g : j = i
      · subst g; simp (disch := omega) only [z_up, if_pos, if_neg, ite_true, ite_false, and_self, and_true, true_and, and_false, false_and]
      · have := h5 j (by omega)
        simp (disch := omega) only [z_up, if_pos, if_neg, ite_true, ite_false, and_self, and_true, true_and, and_false, false_and]; exact this)
    refine ⟨M', ?_, e2, ?_⟩
    · rw [f_X2_load_L10, h3, if_neg (nI_ge (by omega) (by omega)), z_ib (by omega) (by omega), if_pos rfl, z_ib (by omega) (by omega), if_pos rfl, nI_clamp (by omega), z_ml, z_ml, z_ml, nI_1]
      have b1 : M (S + 1) i = nI (z_sH s i) := by rw [h4 _ (by omega)]; exact a1
      have b2 : M (S + 2) i = nI (z_sT s i) := by rw [h4 _ (by omega)]; exact a2
      have b3 : M (S + 4) i = nI (z_sD s i) := by rw [h4 _ (by omega)]; exact a3
      rw [z_up_k _ _ _ _ (show S + 2 ≠ 2 by omega), z_up_k _ _ _ _ (show S + 4 ≠ 3 by omega), z_up_k _ _ _ _ (show S + 4 ≠ 2 by omega), b1, b2, b3, z_nzI a4, ← hM1]
      exact e1
    · intro b hb; rw [e3 b hb, o b hb]
/-- the class's plan is loaded -/
theorem z_load {M : Mem} {S R n : Nat} {s : Nat → Nat} {u : Nat → TU} (hS : z_Stk M S R s u) (hSl : 25 ≤ S ∧ S ≤ 100) (hR : 25 ≤ R) (hL : z_Lws n M) (hl : ∀ t, t < 14 → z_Lok M (M (S + 7) t)) : ∃ M', f_X2_load M S = some M' ∧ z_Pl (s 4) (s 1) (s 2) (s 7) (z_sH s) (z_sT s) (z_sD s) (z_sA s) (z_lw 0 u (s 6)) M' ∧ z_Cf M M' ∧ M' 1 6 = nI (s 3) ∧ z_Lok M (M' 1 7) ∧ ∀ k, 7 ≤ k → k ≤ 24 → M' k = M k := by
  have hfu : 100 < bw_fu := by decide
  have hS' := hS
  obtain ⟨hW, hM, hz, c1, c2, c3, c4, hT⟩ := hS
  obtain ⟨w1, w2, w3, w4, w5, w6, w7, w8, w9⟩ := hW.1
  obtain ⟨d1, d2, d3, d4, d5, d6, d7⟩ := c1
  obtain ⟨M1, e1, e2, e3⟩ := z_ldL (M0 := M) (S := S) (m := s 4) (s := s) hSl.1 w1 (fun i hi => ⟨(c2 i hi).1, (c2 i hi).2.1, (c2 i hi).2.2.2, (hW.2.1 i hi).2.2.2.2.2⟩) (s 4) 0 bw_fu (bw_up M 1 0 (nI (s 4))) (by omega) (by omega) (z_up_s _ _ _ _) (fun b hb => z_up_k _ _ _ _ (by omega)) (fun j hj => by omega)
  obtain ⟨M2, hM2⟩ : ∃ M2, M2 = bw_up (bw_up (bw_up M1 1 4 (nI (s 1))) 1 5 (nI (s 2))) 1 6 (nI (s 3)) := ⟨_, rfl⟩
  have o1 : ∀ b, b = 0 ∨ 5 ≤ b → M1 b = M b := by intro b hb; rw [e3 b (by omega), z_up_k _ _ _ _ (by omega)]
  have o2 : ∀ b, b = 0 ∨ 5 ≤ b → M2 b = M b := by intro b hb; rw [hM2, z_up_k _ _ _ _ (by omega), z_up_k _ _ _ _ (by omega), z_up_k _ _ _ _ (by omega), o1 b hb]
  have m10 : M1 1 0 = nI (s 4) := by rw [e3 1 (by omega), z_up_s]
  have r7 : M2 1 7 = M 1 7 := by rw [hM2, z_up_i _ _ _ _ (by omega), z_up_i _ _ _ _ (by omega), z_up_i _ _ _ _ (by omega), e3 1 (by omega), z_up_i _ _ _ _ (by omega)]
  have c2f : z_Cf M M2 := z_Cf_b (fun b hb => o2 b (by omega))
  have st2 : z_Stk M2 S R s u := z_Stk_fr (o2 R (by omega)) (fun k g1 g2 => o2 k (by omega)) c2f.2 hS'
  have lws2 : z_Lws n M2 := z_Lws_fr (by rw [o2 0 (by omega)]) (o2 32 (by omega)) (o2 52 (by omega)) r7 (by rw [o2 11 (by omega)]) hL
  obtain ⟨l1, l2, l3⟩ := z_lawOf (k := 0) st2 (by omega) lws2 (fun t ht => by
    have := hl t ht
    unfold z_Lok at this ⊢
    rw [o2 0 (by omega), o2 (S + 7) (by omega)]; exact this)
  generalize z_lw 0 u (s 6) = lw at *
  obtain ⟨M3, hM3⟩ : ∃ M3, M3 = bw_up (bw_up M2 1 7 (z_lwI lw)) 1 9 (nI (s 7)) := ⟨_, rfl⟩
  obtain ⟨Mc, hMc⟩ : ∃ Mc, Mc = bw_cpy M3 (S + 6) 0 5 0 6 := ⟨_, rfl⟩
  obtain ⟨M4, hM4⟩ : ∃ M4, M4 = if z_lwI lw = 0 then Mc else bw_fill Mc 6 2500 (-1) := ⟨_, rfl⟩
  have o3 : ∀ b, b ≠ 1 → M3 b = M2 b := by intro b hb; rw [hM3, z_up_k _ _ _ _ hb, z_up_k _ _ _ _ hb]
  have oc : ∀ b, b ≠ 5 → Mc b = M3 b := by
    intro b g1; rw [hMc]; unfold bw_cpy; rw [z_rowk _ _ _ g1]
  have o4c : ∀ b, b ≠ 6 → M4 b = Mc b := by
    intro b g2
    by_cases gz : z_lwI lw = 0
    · rw [hM4, if_pos gz]
    · rw [hM4, if_neg gz]; unfold bw_fill; rw [z_rowk _ _ _ g2]
  have o4 : ∀ b, b ≠ 5 → b ≠ 6 → M4 b = M3 b := by
    intro b g1 g2; rw [o4c b g2, oc b g1]
  have v5 : ∀ k, k < 6 → M4 5 k = M (S + 6) k := by
    intro k hk
    rw [o4c 5 (by omega), hMc]; unfold bw_cpy
    rw [z_rows, show ((0 : Int32).toNatClampNeg) = 0 from rfl, show ((6 : Int32).toNatClampNeg) = 6 from rfl, pk_cpy_in (by omega) (by omega), o3 _ (by omega), o2 _ (by omega)]
    congr 1; omega
  have v6 : ∀ x, x < 2500 → lw ≠ none → M4 6 x = -1 := by
    intro x hx hq
    have gz : ¬ z_lwI lw = 0 := by
      cases lw with
      | none => exact absurd rfl hq
      | some v =>
        have hv := (l3 v rfl).1
        show ¬ nI v.1 = 0
        exact nI_ne0 (by have := hv.2.1.1; omega) (by have := hv.2.1.2.1; omega)
    rw [hM4, if_neg gz]; unfold bw_fill; rw [z_rows]; simp only [if_pos hx]
  have v1 : ∀ x, x ≠ 7 → x ≠ 9 → M4 1 x = M2 1 x := by
    intro x g1 g2; rw [o4 1 (by omega) (by omega), hM3, z_up_i _ _ _ _ g2, z_up_i _ _ _ _ g1]
  have cf : z_Cf M M4 := z_Cf_t c2f (z_Cf_b (fun b hb => by rw [o4 b (by omega) (by omega), o3 b (by omega)]))
  have v17 : M4 1 7 = z_lwI lw := by rw [o4 1 (by omega) (by omega), hM3, z_up_i _ _ _ _ (by omega), z_up_s]
  refine ⟨M4, ?_, ⟨?_, ?_, ?_, ?_, ?_, ?_, ?_, fun x hx hq => Or.inl (v6 x hx hq)⟩, cf, ?_, ?_, ?_⟩
  · unfold f_X2_load
    rw [z_ml, d1, l_0, e1, f_X2_load_L10, m10, if_pos (nI_le (by omega) (by omega)), z_ml, z_ml, z_ml]
    have k1 : M1 S 5 = nI (s 1) := by rw [o1 S (by omega)]; exact d2
    have k2 : M1 S 6 = nI (s 2) := by rw [o1 S (by omega)]; exact d3
    have k3 : M1 S 7 = nI (s 3) := by rw [o1 S (by omega)]; exact d4
    have k4 : M2 S 11 = nI (s 7) := by rw [o2 S (by omega)]; exact d6
    have l1' : f_X6_lawOf M2 S 0 = some (z_lwI lw) := l1
    rw [z_up_k _ _ _ _ (show S ≠ 1 by omega), z_up_k _ _ _ _ (show S ≠ 1 by omega), z_up_k _ _ _ _ (show S ≠ 1 by omega), k1, k2, k3, ← hM2, l1', Option.bind_some, z_ml, z_ml, z_up_k _ _ _ _ (show S ≠ 1 by omega), k4, ← hM3, if_pos (by decide), z_ml, ← hMc]
    have c17 : Mc 1 7 = z_lwI lw := by rw [oc 1 (by omega), hM3, z_up_i _ _ _ _ (by omega), z_up_s]
    rw [c17]
    by_cases gz : z_lwI lw = 0
    · rw [if_pos gz, hM4, if_pos gz]
    · rw [if_neg gz, z_ml, hM4, if_neg gz]
  · rw [v1 0 (by omega) (by omega), hM2, z_up_i _ _ _ _ (by omega), z_up_i _ _ _ _ (by omega), z_up_i _ _ _ _ (by omega), m10]
  · rw [v1 4 (by omega) (by omega), hM2, z_up_i _ _ _ _ (by omega), z_up_i _ _ _ _ (by omega), z_up_s]
  · rw [v1 5 (by omega) (by omega), hM2, z_up_i _ _ _ _ (by omega), z_up_s]
  · rw [o4 1 (by omega) (by omega), hM3, z_up_s]
  · intro j hj
    have o24 : ∀ b, 2 ≤ b → b ≤ 4 → M4 b = M1 b := by
      intro b g1 g2; rw [o4 b (by omega) (by omega), o3 b (by omega), hM2, z_up_k _ _ _ _ (by omega), z_up_k _ _ _ _ (by omega), z_up_k _ _ _ _ (by omega)]
    rw [o24 2 (by omega) (by omega), o24 3 (by omega) (by omega), o24 4 (by omega) (by omega)]
    exact e2 j hj
  · intro k hk; rw [v5 k (by omega)]; exact c4 k hk
  · cases lw with
    | none => exact v17
    | some v => exact ⟨v17, z_LOK_fr (z_Cf_b (fun b hb => by rw [o4 b (by omega) (by omega), o3 b (by omega)])) (l3 v rfl).1⟩
  · rw [v1 6 (by omega) (by omega), hM2, z_up_s]
  · rw [v17]
    unfold z_Lok at l2 ⊢
    rw [o2 0 (by omega)] at l2; exact l2
  · intro k g1 g2; rw [o4 k (by omega) (by omega), o3 k (by omega), o2 k (by omega)]
theorem z_askL {s : Nat → Nat} {M0 : Mem} (hM : z_MR M0 94 s) (hc : s 7 ≤ 6) : ∀ r i fu (M : Mem), i + r = s 7 → r < fu → M 93 10 = nI (s 7) → M 94 = M0 94 → (∀ j, j < i → M 100 j = nI (z_sA s j)) → ∃ M', f_X10_asks_L33 fu (nI i) M = some M' ∧ (∀ j, j < s 7 → M' 100 j = nI (z_sA s j)) ∧ ∀ b, b ≠ 100 → M' b = M b := by
  intro r
  induction r with
  | zero =>
    intro i fu M h1 h2 h3 h4 h5
    obtain ⟨fu, rfl⟩ : ∃ f, fu = f + 1 := ⟨fu - 1, by omega⟩
    refine ⟨M, ?_, fun j hj => h5 j (by omega), fun _ _ => rfl⟩
    rw [f_X10_asks_L33, h3, if_pos (nI_le (by omega) (by omega))]
  | succ r ih =>
    intro i fu M h1 h2 h3 h4 h5
    obtain ⟨fu, rfl⟩ : ∃ f, fu = f + 1 := ⟨fu - 1, by omega⟩
    obtain ⟨M', e1, e2, e3⟩ := ih (i + 1) fu (bw_up M 100 i (nI (z_sA s i))) (by omega) (by omega) (by rw [z_up_k _ _ _ _ (by omega)]; exact h3) (by rw [z_up_k _ _ _ _ (by omega)]; exact h4) (by
      intro j hj
      by_cases g : j = i
      · subst g; rw [z_up_s]
      · rw [z_up_i _ _ _ _ g]; exact h5 j (by omega))
    refine ⟨M', ?_, e2, ?_⟩
    · rw [f_X10_asks_L33, h3, if_neg (nI_ge (by omega) (by omega)), l_8, nI_add, z_ib (by omega) (by omega), if_pos rfl, z_ib (by omega) (by omega), if_pos rfl, nI_clamp (by omega), nI_clamp (by omega), h4, hM _ (by omega) (by omega), z_ml, nI_1]
      exact e1
    · intro b hb; rw [e3 b hb, z_up_k _ _ _ _ hb]
theorem z_ask {s : Nat → Nat} {M : Mem} {q : Nat} (hM : z_MR M 94 s) (hW : z_W s) (hq : M 93 13 = nI q) : ∃ M', f_X10_asks M = some M' ∧ M' 93 13 = nI (q + 1) ∧ M' 93 8 = nI (s 1) ∧ M' 93 10 = nI (s 7) ∧ (∀ j, j < s 7 → M' 100 j = nI (z_sA s j)) ∧ (∀ x, x ≠ 8 → x ≠ 10 → x ≠ 13 → M' 93 x = M 93 x) ∧ ∀ b, b ≠ 93 → b ≠ 100 → M' b = M b := by
  have w4 : s 7 ≤ 6 := hW.1.2.2.2.1
  have hfu : 100 < bw_fu := by decide
  have hfu' : s 7 < bw_fu := by omega
  obtain ⟨M1, hM1⟩ : ∃ M1, M1 = bw_up (bw_up (bw_up M 93 13 (nI (q + 1))) 93 8 (nI (s 1))) 93 10 (nI (s 7)) := ⟨_, rfl⟩
  have o : ∀ b, b ≠ 93 → M1 b = M b := by intro b hb; rw [hM1]; simp (disch := omega) only [z_up_k]
  obtain ⟨M', e1, e2, e3⟩ := z_askL (M0 := M) hM w4 (s 7) 0 bw_fu M1 (by omega) hfu' (by rw [hM1, z_up_s]) (o 94 (by omega)) (fun j hj => by omega)
  refine ⟨M', ?_, ?_, ?_, ?_, e2, ?_, ?_⟩
  · unfold f_X10_asks
    rw [z_ml, z_ml, z_ml, hq, nI_1, show ((1 : Int32).toNatClampNeg) = 1 from rfl, z_c7, z_up_k _ _ _ _ (show 94 ≠ 93 by omega), hM 1 (by omega) (by omega), z_up_k _ _ _ _ (show 94 ≠ 93 by omega), z_up_k _ _ _ _ (show 94 ≠ 93 by omega), hM 7 (by omega) (by omega), ← hM1, l_0]
    exact e1
  · rw [e3 93 (by omega), hM1]; simp (disch := omega) only [z_up, if_pos, if_neg, ite_true, ite_false, and_self, and_true, true_and, and_false, false_and]
  · rw [e3 93 (by omega), hM1]; simp (disch := omega) only [z_up, if_pos, if_neg, ite_true, ite_false, and_self, and_true, true_and, and_false, false_and]
  · rw [e3 93 (by omega), hM1]; simp (disch := omega) only [z_up, if_pos, if_neg, ite_true, ite_false, and_self, and_true, true_and, and_false, false_and]
  · intro x g1 g2 g3; rw [e3 93 (by omega), hM1]; simp (disch := omega) only [z_up, if_pos, if_neg, ite_true, ite_false, and_self, and_true, true_and, and_false, false_and]
  · intro b g1 g2; rw [e3 b g2, o b g1]
theorem z_tkB {M : Mem} {k h t b : Nat} (hk : k < 25) (h7 : M 93 7 = nI k) (hb : b ≤ 1) : f_X10_takesBook M (nI h) (nI t) (nI b) = some (bw_up (bw_up (bw_up (bw_up M 97 k (nI h)) 98 k (nI t)) 99 k (nI b)) 93 7 (nI (k + 1))) := by
  unfold f_X10_takesBook
  rw [z_nzI hb]
  simp (disch := omega) only [h7, z_ml, nI_clamp, z_ib, z_up_k, if_true, nI_1]
theorem z_tkL {s : Nat → Nat} {M0 : Mem} (hM : z_MR M0 94 s) (hW : z_W s) : ∀ r i fu (M : Mem), i + r = s 4 → r < fu → M 93 7 = nI i → M 94 = M0 94 → (∀ j, j < i → M 97 j = nI (z_sH s j) ∧ M 98 j = nI (z_sT s j) ∧ M 99 j = nI (z_sD s j)) → ∃ M', f_X10_takesAll_L7 fu (nI i) M = some M' ∧ M' 93 7 = nI (s 4) ∧ (∀ j, j < s 4 → M' 97 j = nI (z_sH s j) ∧ M' 98 j = nI (z_sT s j) ∧ M' 99 j = nI (z_sD s j)) ∧ (∀ x, x ≠ 7 → M' 93 x = M 93 x) ∧ ∀ b, b ≠ 93 → b ≠ 97 → b ≠ 98 → b ≠ 99 → M' b = M b := by
  have w1 : s 4 ≤ 24 := hW.1.1
  intro r
  induction r with
  | zero =>
    intro i fu M h1 h2 h3 h4 h5
    obtain ⟨fu, rfl⟩ : ∃ f, fu = f + 1 := ⟨fu - 1, by omega⟩
    refine ⟨M, ?_, by rw [h3]; congr 1, fun j hj => h5 j (by omega), fun _ _ => rfl, fun _ _ _ _ _ => rfl⟩
    rw [f_X10_takesAll_L7, z_c4, h4, hM 4 (by omega) (by omega), if_pos (nI_le (by omega) (by omega))]
  | succ r ih =>
    intro i fu M h1 h2 h3 h4 h5
    obtain ⟨fu, rfl⟩ : ∃ f, fu = f + 1 := ⟨fu - 1, by omega⟩
    have hMM : z_MR M 94 s := by intro k g1 g2; rw [h4]; exact hM k g1 g2
    obtain ⟨-, -, -, -, -, x6⟩ := hW.2.1 i (by omega)
    have q0 : f_X10_book4 M (nI i) 0 = some (nI (z_sH s i)) := z_b4 hMM (j := i) (w := 0) (by omega) (by omega)
    have q1 : f_X10_book4 M (nI i) 1 = some (nI (z_sT s i)) := by
      have := z_b4 hMM (j := i) (w := 1) (by omega) (by omega)
      rw [show 14 + 4 * i + 1 = 15 + 4 * i by omega] at this
      exact this
    have q3 : f_X10_book4 M (nI i) 3 = some (nI (z_sD s i)) := by
      have := z_b4 hMM (j := i) (w := 3) (by omega) (by omega)
      rw [show 14 + 4 * i + 3 = 17 + 4 * i by omega] at this
      exact this
    have dE : (if nI (z_sD s i) = 1 then (1 : Int32) else 0) = nI (z_sD s i) := by
      rcases (by unfold z_sD; omega : z_sD s i = 0 ∨ z_sD s i = 1) with e | e <;> rw [e] <;> rfl
    obtain ⟨M1, hM1⟩ : ∃ M1, M1 = bw_up (bw_up (bw_up (bw_up M 97 i (nI (z_sH s i))) 98 i (nI (z_sT s i))) 99 i (nI (z_sD s i))) 93 7 (nI (i + 1)) := ⟨_, rfl⟩
    have o : ∀ b, b ≠ 93 → b ≠ 97 → b ≠ 98 → b ≠ 99 → M1 b = M b := by intro b g1 g2 g3 g4; rw [hM1, z_up_k _ _ _ _ g1, z_up_k _ _ _ _ g4, z_up_k _ _ _ _ g3, z_up_k _ _ _ _ g2]
    obtain ⟨M', e1, e2, e3, e4, e5⟩ := ih (i + 1) fu M1 (by omega) (by omega) (by rw [hM1, z_up_s]) (by rw [o 94 (by omega) (by omega) (by omega) (by omega)]; exact h4) (by
      intro j hj
      rw [hM1]
      by_cases g : j = i
      · subst g; simp (disch := omega) only [z_up, if_pos, if_neg, ite_true, ite_false, and_self, and_true, true_and, and_false, false_and]
      · have := h5 j (by omega)
        simp (disch := omega) only [z_up, if_pos, if_neg, ite_true, ite_false, and_self, and_true, true_and, and_false, false_and]; exact this)
    refine ⟨M', ?_, e2, e3, ?_, ?_⟩
    · rw [f_X10_takesAll_L7, z_c4, h4, hM 4 (by omega) (by omega), if_neg (nI_ge (by omega) (by omega)), q0, q1, q3, Option.bind_some, Option.bind_some, Option.bind_some, dE, z_tkB (by omega) h3 (by unfold z_sD; omega), Option.bind_some, nI_1, ← hM1]
      exact e1
    · intro x hx; rw [e4 x hx, hM1, z_up_i _ _ _ _ hx]; simp (disch := omega) only [z_up_k]
    · intro b g1 g2 g3 g4; rw [e5 b g1 g2 g3 g4, o b g1 g2 g3 g4]
theorem z_tk {s : Nat → Nat} {M : Mem} (hM : z_MR M 94 s) (hW : z_W s) : ∃ M', f_X10_takesAll M = some M' ∧ M' 93 7 = nI (s 4) ∧ (∀ j, j < s 4 → M' 97 j = nI (z_sH s j) ∧ M' 98 j = nI (z_sT s j) ∧ M' 99 j = nI (z_sD s j)) ∧ (∀ x, x ≠ 7 → M' 93 x = M 93 x) ∧ ∀ b, b ≠ 93 → b ≠ 97 → b ≠ 98 → b ≠ 99 → M' b = M b := by
  have hfu : 100 < bw_fu := by decide
  have w1 : s 4 ≤ 24 := hW.1.1
  obtain ⟨M', e1, e2, e3, e4, e5⟩ := z_tkL (M0 := M) hM hW (s 4) 0 bw_fu (bw_up M 93 7 (nI 0)) (by omega) (by omega) (z_up_s _ _ _ _) (z_up_k _ _ _ _ (by omega)) (fun j hj => by omega)
  refine ⟨M', ?_, e2, e3, ?_, ?_⟩
  · unfold f_X10_takesAll; rw [z_ml, l_0]; exact e1
  · intro x hx; rw [e4 x hx, z_up_i _ _ _ _ hx]
  · intro b g1 g2 g3 g4; rw [e5 b g1 g2 g3 g4, z_up_k _ _ _ _ g1]
theorem z_MLwS {M : Mem} {S k : Nat} {s : Nat → Nat} {u : Nat → TU} (hW : z_W s) (hM : z_MR M 94 s) (hT : ∀ t, t < s 6 → z_Txt M S 94 t (u t)) (hk : k ≤ 2) : z_MLw (nI k) (z_lw k u (s 6)) M := by
  have hfu : 100 < bw_fu := by decide
  have w3 : s 6 ≤ 14 := hW.1.2.2.1
  have x2 := z_mLast (S := S) (u := u) (k := k) w3 hk hT (s 6) bw_fu (by omega) (by omega)
  have x3 : f_X10_counts M (nI k) = some (match z_lt k u (s 6) with | none => -1 | some t => nI t) := by
    unfold f_X10_counts; rw [z_ml, z_c6, hM 6 (by omega) (by omega)]; exact x2
  unfold z_lw
  cases h : z_lt k u (s 6) with
  | none => rw [h] at x3; exact x3
  | some t =>
    rw [h] at x3
    obtain ⟨t1, t2⟩ := z_lt_lt _ _ _ _ h
    obtain ⟨g1, g2, g3, g4, g5, g6⟩ := hT t t1
    exact ⟨t, by omega, x3, g2, g4, g6⟩
/-- the model's question, with all books -/
theorem z_mBeg {M : Mem} {S n : Nat} {s : Nat → Nat} {u : Nat → TU} (hn : n < 512) (hW : z_W s) (hM : z_MR M 94 s) (hT : ∀ t, t < s 6 → z_Txt M S 94 t (u t)) (hA : z_Ask n M) : ∃ q Ma M', q ≤ n ∧ f_X10_asks M = some Ma ∧ f_X10_takesAll Ma = some M' ∧ z_Mp (s 4) (s 1) (s 2) (s 7) (z_sH s) (z_sT s) (z_sD s) (z_sA s) (z_lw 0 u (s 6)) (q + 1) M' ∧ z_Mf M M' ∧ (∀ x, x ≠ 7 → x ≠ 8 → x ≠ 10 → x ≠ 13 → M' 93 x = M 93 x) ∧ (∀ b, b ≠ 93 → b ≠ 97 → b ≠ 98 → b ≠ 99 → b ≠ 100 → M' b = M b) ∧ Ma 93 13 = nI (q + 1) ∧ Ma 93 8 = nI (s 1) ∧ Ma 93 10 = nI (s 7) ∧ (∀ j, j < s 7 → Ma 100 j = nI (z_sA s j)) ∧ (∀ x, x ≠ 8 → x ≠ 10 → x ≠ 13 → Ma 93 x = M 93 x) ∧ ∀ b, b ≠ 93 → b ≠ 100 → Ma b = M b := by
  obtain ⟨q, hq, a1, a2⟩ := hA
  obtain ⟨Ma, e1, e2, e3, e4, e5, e6, e7⟩ := z_ask hM hW a1
  obtain ⟨M', f1, f2, f3, f4, f5⟩ := z_tk (M := Ma) (by intro i g1 g2; rw [e7 94 (by omega) (by omega)]; exact hM i g1 g2) hW
  have o : ∀ b, b ≠ 93 → b ≠ 97 → b ≠ 98 → b ≠ 99 → b ≠ 100 → M' b = M b := by
    intro b g1 g2 g3 g4 g5; rw [f5 b g1 g2 g3 g4, e7 b g1 g5]
  have o93 : ∀ x, x ≠ 7 → x ≠ 8 → x ≠ 10 → x ≠ 13 → M' 93 x = M 93 x := by
    intro x g1 g2 g3 g4; rw [f4 x g1, e6 x g2 g3 g4]
  have h94 : M' 94 = M 94 := o 94 (by omega) (by omega) (by omega) (by omega) (by omega)
  refine ⟨q, Ma, M', hq, e1, f1, ⟨f2, by rw [f4 8 (by omega)]; exact e3, by rw [h94]; exact hM 2 (by omega) (by omega), by rw [f4 10 (by omega)]; exact e4, f3, by rw [f5 100 (by omega) (by omega) (by omega) (by omega)]; exact e5, z_MLw_fr h94 (z_MLwS (k := 0) hW hM hT (by omega)), ⟨by omega, by rw [f4 13 (by omega)]; exact e2⟩, ?_⟩, ⟨fun b hb => o b (by omega) (by omega) (by omega) (by omega) (by omega), o93 _ (by omega) (by omega) (by omega) (by omega), o93 _ (by omega) (by omega) (by omega) (by omega), o93 _ (by omega) (by omega) (by omega) (by omega)⟩, o93, o, e2, e3, e4, e5, e6, e7⟩
  intro x hx
  rw [o 102 (by omega) (by omega) (by omega) (by omega) (by omega)]
  obtain ⟨p, p1, p2⟩ := a2 x hx
  refine ⟨⟨p, by omega, p2⟩, fun h => ?_⟩
  rw [p2, nI_eq (by omega) (by omega)] at h
  omega
/-- an op that works in scratch rows alone -/
theorem z_fin {n : Nat} {M M1 M2 : Mem} (hI : Inv n M) (hc : z_Cf M M1) (h7 : z_Lok M (M1 1 7)) (h3 : z_Lok M (M1 11 3)) (hm : z_Mf M1 M2) (ha : z_Ask (n + 1) M2) : Inv (n + 1) M2 := by
  have hr : ∀ b, b = 0 ∨ (14 ≤ b ∧ b ≤ 20) ∨ (25 ≤ b ∧ b ≤ 92) ∨ b = 94 ∨ b = 95 ∨ b = 110 ∨ b = 111 ∨ b = 112 ∨ (120 ≤ b ∧ b ≤ 128) → M2 b = M b := by
    intro b hb; rw [hm.1 b (by omega), hc.1 b (by omega)]
  refine z_Prs_Inv (M := M) (n := n) ⟨?_, ?_, ?_, ?_, ?_, ?_⟩ hI ha (by omega) ?_ ?_
  · intro k hk; exact hr k (by unfold z_pr at hk; omega)
  · rw [hr 16 (by omega)]
  · rw [hm.2.1, hc.1 93 (by omega)]
  · rw [hm.2.2.1, hc.1 93 (by omega)]
  · rw [hm.2.2.2, hc.1 93 (by omega)]
  · intro c
    rw [hm.1 (129 + 3 * c) (by omega), hm.1 (130 + 3 * c) (by omega), hm.1 (131 + 3 * c) (by omega)]
    exact hc.2 c
  · rw [hm.1 1 (by omega)]; exact h7
  · rw [hm.1 11 (by omega)]; exact h3
theorem z_AskMp {n m W pl c q0 : Nat} {h t d A : Nat → Nat} {lw : Option TU} {M : Mem} (hq : q0 ≤ n) (hp : z_Mp m W pl c h t d A lw q0 M) : z_Ask n M := ⟨q0, hq, hp.2.2.2.2.2.2.2.1.2, fun i hi => (hp.2.2.2.2.2.2.2.2 i hi).1⟩
