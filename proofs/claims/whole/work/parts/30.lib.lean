/-! level 2: numbers, rows, guards -/
theorem z_up_s (M : Mem) (k i : Nat) (x : Int32) : bw_up M k i x k i = x := by simp [bw_up, upd]
theorem z_up_k (M : Mem) (k i : Nat) (x : Int32) {b : Nat} (h : b ≠ k) : bw_up M k i x b = M b := by simp [bw_up, h]
theorem z_up_i (M : Mem) (k i : Nat) (x : Int32) {j : Nat} (h : j ≠ i) : bw_up M k i x k j = M k j := by simp [bw_up, upd, h]
theorem z_up (M : Mem) (k i : Nat) (x : Int32) (b j : Nat) : bw_up M k i x b j = if b = k ∧ j = i then x else M b j := by
  by_cases h : b = k
  · subst h
    by_cases g : j = i
    · subst g; simp [z_up_s]
    · simp [z_up_i _ _ _ _ g, g]
  · simp [z_up_k _ _ _ _ h, h]
theorem z_ib {n N : Nat} (h : n < N) (hN : n < 2 ^ 31) : bw_ib (nI n) N = true := by
  simp [bw_ib, nI_clamp hN, h, nI_pos' hN]
theorem z_ml {α β : Type} (M : α) (f : α → β) : bw_ml M f = f M := rfl
theorem z_in (a b c : Int32) : f_X10_in a b c = f_X9_isWithin a b c := rfl
/-- within bounds, or not -/
theorem z_wi (x : Int32) (a b : Nat) (hb : b < 2 ^ 31) (ha : a < 2 ^ 31) : f_X9_isWithin x (nI a) (nI b) = 0 ∨ (f_X9_isWithin x (nI a) (nI b) = 1 ∧ ∃ j, a ≤ j ∧ j ≤ b ∧ x = nI j) := by
  unfold f_X9_isWithin
  by_cases h1 : x < nI a
  · left; simp [h1]
  · by_cases h2 : nI b < x
    · left; simp [h1, h2]
    · right
      refine ⟨by simp [h1, h2], ?_⟩
      have h0 : ¬ x < 0 := by
        intro h
        exact h1 (Int32.lt_of_lt_of_le h (nI_pos' ha))
      obtain ⟨j, hj, rfl⟩ := nI_of h0
      rw [nI_ltI hj ha] at h1
      rw [nI_ltI hb hj] at h2
      exact ⟨j, by omega, by omega, rfl⟩
theorem z_wi1 (x : Int32) (n : Nat) (hn : n < 2 ^ 31) : f_X9_isWithin x 0 (nI n - 1) = 0 ∨ (f_X9_isWithin x 0 (nI n - 1) = 1 ∧ ∃ j, j < n ∧ x = nI j) := by
  cases n with
  | zero =>
    left
    unfold f_X9_isWithin
    by_cases h1 : x < 0
    · simp [h1]
    · have : nI 0 - 1 < x := by
        refine Int32.lt_of_lt_of_le (b := 0) (by decide) (Int32.not_lt.mp h1)
      simp [h1, this]
  | succ n =>
    rw [nI_pred]
    rcases z_wi x 0 n (by omega) (by omega) with h | ⟨h, j, _, hj, rfl⟩
    · exact Or.inl h
    · exact Or.inr ⟨h, j, by omega, rfl⟩
