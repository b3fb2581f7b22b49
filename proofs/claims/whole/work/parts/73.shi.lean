/-! level 2: shift -/
def z_iH (f : Nat → Nat) (p x j : Nat) : Nat := if j = p then x else if p < j then f (j - 1) else f j
def z_iD (f : Nat → Nat) (p j : Nat) : Nat := if j = p ∨ j + 1 = p then 0 else if p < j then f (j - 1) else f j
theorem z_cIn1 {p H T : Nat} (hp : p < 24) : ∀ r i fu (M : Mem), i = p + r → i ≤ 23 → r < fu → (∀ j, j < i → ∃ x, x ≤ 1 ∧ M 4 j = nI x) → ∃ M', f_X2_insert_L28 (nI p) (nI H) (nI T) fu (nI i) M = some M' ∧ (∀ j, M' 2 j = if j = p then nI H else if p < j ∧ j ≤ i then M 2 (j - 1) else M 2 j) ∧ (∀ j, M' 3 j = if j = p then nI T else if p < j ∧ j ≤ i then M 3 (j - 1) else M 3 j) ∧ (∀ j, M' 4 j = if j = p ∨ j + 1 = p then nI 0 else if p < j ∧ j ≤ i then M 4 (j - 1) else M 4 j) ∧ M' 1 0 = M 1 0 + 1 ∧ (∀ x, x ≠ 0 → M' 1 x = M 1 x) ∧ ∀ b, b = 0 ∨ 4 < b → M' b = M b := by
  intro r
  induction r with
  | zero =>
    intro i fu M h1 h2 h3 h4
    obtain ⟨fu, rfl⟩ : ∃ f, fu = f + 1 := ⟨fu - 1, by omega⟩
    have : i = p := by omega
    subst this
    by_cases g : i = 0
    · subst g
      refine ⟨bw_up (bw_up (bw_up (bw_up M 2 0 (nI H)) 3 0 (nI T)) 4 0 (nI 0)) 1 0 (M 1 0 + 1), ?_, ?_, ?_, ?_, ?_, ?_, ?_⟩
      · rw [f_X2_insert_L28, if_pos (nI_le (by omega) (by omega)), z_ib (by omega) (by omega), if_pos rfl, nI_clamp (by omega), z_ml, z_ml, z_ml, if_pos (by decide), z_ml, show bw_nz 0 = nI 0 from z_nz0]
        simp (disch := omega) only [z_up_k]
      · intro j; simp (disch := omega) only [z_up_k]; rw [z_up]; by_cases e : j = 0 <;> simp [e]
      · intro j; rw [z_up_k _ _ _ _ (by omega), z_up_k _ _ _ _ (by omega), z_up, z_up_k _ _ _ _ (by omega)]; by_cases e : j = 0 <;> simp [e]
      · intro j; rw [z_up_k _ _ _ _ (by omega), z_up, z_up_k _ _ _ _ (by omega), z_up_k _ _ _ _ (by omega)]; by_cases e : j = 0 <;> simp [e]
      · rw [z_up_s]
      · intro x hx; rw [z_up_i _ _ _ _ hx]; simp (disch := omega) only [z_up_k]
      · intro b hb; simp (disch := omega) only [z_up_k]
    · refine ⟨bw_up (bw_up (bw_up (bw_up (bw_up M 2 i (nI H)) 3 i (nI T)) 4 i (nI 0)) 4 (i - 1) (nI 0)) 1 0 (M 1 0 + 1), ?_, ?_, ?_, ?_, ?_, ?_, ?_⟩
      · rw [f_X2_insert_L28, if_pos (nI_le (by omega) (by omega)), z_ib (by omega) (by omega), if_pos rfl, nI_clamp (by omega), z_ml, z_ml, z_ml, if_neg (nI_nle (by omega) (by omega)), show nI i - 1 = nI (i - 1) from pk_sub (b := 1) (by omega), z_ib (by omega) (by omega), if_pos rfl, nI_clamp (by omega), z_ml, z_ml, show bw_nz 0 = nI 0 from z_nz0]
        simp (disch := omega) only [z_up_k]
      · intro j; simp (disch := omega) only [z_up_k]; rw [z_up]
        by_cases e : j = i
        · simp [e]
        · simp only [e, and_false, if_false]; rw [if_neg (by omega)]
      · intro j; rw [z_up_k _ _ _ _ (by omega), z_up_k _ _ _ _ (by omega), z_up_k _ _ _ _ (by omega), z_up, z_up_k _ _ _ _ (by omega)]
        by_cases e : j = i
        · simp [e]
        · simp only [e, and_false, if_false]; rw [if_neg (by omega)]
      · intro j; rw [z_up_k _ _ _ _ (by omega), z_up, z_up, z_up_k _ _ _ _ (by omega), z_up_k _ _ _ _ (by omega)]
        by_cases e : j = i - 1
        · rw [if_pos ⟨rfl, e⟩, if_pos (by omega)]
        · rw [if_neg (by omega)]
          by_cases e2 : j = i
          · rw [if_pos ⟨rfl, e2⟩, if_pos (by omega)]
          · rw [if_neg (by omega), if_neg (by omega), if_neg (by omega)]
      · rw [z_up_s]
      · intro x hx; rw [z_up_i _ _ _ _ hx]; simp (disch := omega) only [z_up_k]
      · intro b hb; simp (disch := omega) only [z_up_k]
  | succ r ih =>
    intro i fu M h1 h2 h3 h4
    obtain ⟨fu, rfl⟩ : ∃ f, fu = f + 1 := ⟨fu - 1, by omega⟩
    obtain ⟨x, hx1, hx2⟩ := h4 (i - 1) (by omega)
    obtain ⟨M1, hM1⟩ : ∃ M1, M1 = bw_up (bw_up (bw_up M 2 i (M 2 (i - 1))) 3 i (M 3 (i - 1))) 4 i (M 4 (i - 1)) := ⟨_, rfl⟩
    have o : ∀ b, b < 2 ∨ 4 < b → M1 b = M b := by intro b hb; rw [hM1]; simp (disch := omega) only [z_up_k]
    have a2 : ∀ j, M1 2 j = if j = i then M 2 (i - 1) else M 2 j := by
      intro j; rw [hM1, z_up_k _ _ _ _ (by omega), z_up_k _ _ _ _ (by omega), z_up]; by_cases e : j = i <;> simp [e]
    have a3 : ∀ j, M1 3 j = if j = i then M 3 (i - 1) else M 3 j := by
      intro j; rw [hM1, z_up_k _ _ _ _ (by omega), z_up, z_up_k _ _ _ _ (by omega)]; by_cases e : j = i <;> simp [e]
    have a4 : ∀ j, M1 4 j = if j = i then M 4 (i - 1) else M 4 j := by
      intro j; rw [hM1, z_up, z_up_k _ _ _ _ (by omega), z_up_k _ _ _ _ (by omega)]; by_cases e : j = i <;> simp [e]
    obtain ⟨M', e1, e2, e3, e4, e5, e6, e7⟩ := ih (i - 1) fu M1 (by omega) (by omega) (by omega) (by intro j hj; rw [a4, if_neg (by omega)]; exact h4 j (by omega))
    refine ⟨M', ?_, ?_, ?_, ?_, by rw [e5, o 1 (by omega)], fun x hx => by rw [e6 x hx, o 1 (by omega)], fun b hb => by rw [e7 b hb, o b (by omega)]⟩
    · have s1 : nI i - 1 = nI (i - 1) := pk_sub (b := 1) (by omega)
      rw [f_X2_insert_L28, if_neg (nI_ge (by omega) (by omega)), s1, z_ib (by omega) (by omega), if_pos rfl, z_ib (by omega) (by omega), if_pos rfl, nI_clamp (by omega), nI_clamp (by omega), z_ml, z_ml, z_ml]
      rw [z_up_k _ _ _ _ (show 3 ≠ 2 by omega), z_up_k _ _ _ _ (show 4 ≠ 3 by omega), z_up_k _ _ _ _ (show 4 ≠ 2 by omega), hx2, z_nzI hx1, ← hx2, ← hM1]
      exact e1
    · intro j; rw [e2 j]
      by_cases e : j = p
      · rw [if_pos e, if_pos e]
      · rw [if_neg e, if_neg e]
        by_cases g : p < j ∧ j ≤ i - 1
        · rw [if_pos g, if_pos (by omega), a2, if_neg (by omega)]
        · rw [if_neg g, a2]
          by_cases e3 : j = i
          · rw [if_pos e3, if_pos (by omega), e3]
          · rw [if_neg e3, if_neg (by omega)]
    · intro j; rw [e3 j]
      by_cases e : j = p
      · rw [if_pos e, if_pos e]
      · rw [if_neg e, if_neg e]
        by_cases g : p < j ∧ j ≤ i - 1
        · rw [if_pos g, if_pos (by omega), a3, if_neg (by omega)]
        · rw [if_neg g, a3]
          by_cases e3 : j = i
          · rw [if_pos e3, if_pos (by omega), e3]
          · rw [if_neg e3, if_neg (by omega)]
    · intro j; rw [e4 j]
      by_cases e : j = p ∨ j + 1 = p
      · rw [if_pos e, if_pos e]
      · rw [if_neg e, if_neg e]
        by_cases g : p < j ∧ j ≤ i - 1
        · rw [if_pos g, if_pos (by omega), a4, if_neg (by omega)]
        · rw [if_neg g, a4]
          by_cases e3 : j = i
          · rw [if_pos e3, if_pos (by omega), e3]
          · rw [if_neg e3, if_neg (by omega)]
theorem z_ins {m W pl c p H T : Nat} {h t d A : Nat → Nat} {lw : Option TU} {M : Mem} (hm : m < 24) (hp : p ≤ m) (hd : ∀ j, j < m → d j ≤ 1) (hP : z_Pl m W pl c h t d A lw M) : ∃ M', f_X2_insert M (nI p) (nI H) (nI T) = some M' ∧ z_Pl (m + 1) W pl c (z_iH h p H) (z_iH t p T) (z_iD d p) A lw M' ∧ z_Cf M M' ∧ ∀ k, 5 ≤ k → M' k = M k := by
  have hfu : 100 < bw_fu := by decide
  obtain ⟨p1, p2, p3, p4, p5, p6, p7, p8⟩ := hP
  obtain ⟨M', e1, e2, e3, e4, e5, e6, e7⟩ := z_cIn1 (p := p) (H := H) (T := T) (by omega) (m - p) m bw_fu M (by omega) (by omega) (by omega) (fun j hj => ⟨d j, hd j hj, (p5 j hj).2.2⟩)
  have cf : z_Cf M M' := z_Cf_b (fun b hb => e7 b (by omega))
  refine ⟨M', ?_, ⟨by rw [e5, p1, nI_1], by rw [e6 4 (by omega)]; exact p2, by rw [e6 5 (by omega)]; exact p3, by rw [e6 9 (by omega)]; exact p4, ?_, by rw [e7 5 (by omega)]; exact p6, ?_, by rw [e7 6 (by omega)]; exact p8⟩, cf, fun k hk => e7 k (by omega)⟩
  · unfold f_X2_insert
    have wi : f_X9_isWithin (nI p) 0 (nI m) = 1 := by
      have := z_wiN (j := p) (a := 0) (b := m) (by omega) (by omega) (by omega)
      rw [if_pos (by omega), ← l_0] at this
      exact this
    rw [p1, if_neg (show ¬ (24 : Int32) ≤ nI m from nI_ge (b := 24) hm (by omega)), wi, if_neg (by decide)]
    exact e1
  · intro j hj
    rw [e2 j, e3 j, e4 j]
    unfold z_iH z_iD
    by_cases a1 : j = p
    · rw [if_pos a1, if_pos a1, if_pos (Or.inl a1), if_pos a1, if_pos a1, if_pos (Or.inl a1)]; exact ⟨rfl, rfl, rfl⟩
    · rw [if_neg a1, if_neg a1, if_neg a1, if_neg a1]
      by_cases a2 : p < j
      · obtain ⟨x1, x2, x3⟩ := p5 (j - 1) (by omega)
        rw [if_pos (show p < j ∧ j ≤ m by omega), if_pos a2, if_pos (show p < j ∧ j ≤ m by omega), if_pos a2, if_neg (show ¬ (j = p ∨ j + 1 = p) by omega), if_neg (show ¬ (j = p ∨ j + 1 = p) by omega), if_pos (show p < j ∧ j ≤ m by omega), if_pos a2]
        exact ⟨x1, x2, x3⟩
      · obtain ⟨x1, x2, x3⟩ := p5 j (by omega)
        rw [if_neg (show ¬ (p < j ∧ j ≤ m) by omega), if_neg a2, if_neg (show ¬ (p < j ∧ j ≤ m) by omega), if_neg a2]
        refine ⟨x1, x2, ?_⟩
        by_cases a3 : j + 1 = p
        · rw [if_pos (Or.inr a3), if_pos (Or.inr a3)]
        · rw [if_neg (show ¬ (j = p ∨ j + 1 = p) by omega), if_neg (show ¬ (j = p ∨ j + 1 = p) by omega), if_neg (show ¬ (p < j ∧ j ≤ m) by omega), if_neg a2]; exact x3
  · cases lw with
    | none => dsimp only at p7 ⊢; rw [e6 7 (by omega)]; exact p7
    | some v => dsimp only at p7 ⊢; rw [e6 7 (by omega)]; exact ⟨p7.1, z_LOK_fr cf p7.2⟩
theorem z_iBd {m W pl c p H T : Nat} {h t d A : Nat → Nat} (hm : m < 24) (hp : p ≤ m) (h1 : 1 ≤ H) (h2 : H ≤ 99) (h3 : T ≤ 99) (hb : z_Bd m W pl c h t d A) : z_Bd (m + 1) W pl c (z_iH h p H) (z_iH t p T) (z_iD d p) A := by
  obtain ⟨b1, b2, b3, b4, b5, b6⟩ := hb
  refine ⟨by omega, b2, b3, b4, ?_, b6⟩
  intro j hj
  unfold z_iH z_iD
  by_cases a1 : j = p
  · rw [if_pos a1, if_pos a1, if_pos (Or.inl a1)]; omega
  · rw [if_neg a1, if_neg a1]
    by_cases a2 : p < j
    · have := b5 (j - 1) (by omega)
      rw [if_pos a2, if_pos a2, if_neg (show ¬ (j = p ∨ j + 1 = p) by omega), if_pos a2]; exact this
    · have := b5 j (by omega)
      rw [if_neg a2, if_neg a2]
      by_cases a3 : j + 1 = p
      · rw [if_pos (Or.inr a3)]; omega
      · rw [if_neg (show ¬ (j = p ∨ j + 1 = p) by omega), if_neg a2]; exact this
